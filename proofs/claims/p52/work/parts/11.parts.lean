/-! HashLab$Clusters.number(LHashLab$Table;)I: 25 instructions -/
def fX1_number_37  (rec4 : Int32 → (Nat → Int32) → Int32 → Int32 → Option (Int32)) (tcp : Int32) (tK : Nat → Int32) (v1 : Int32) (v2 : Int32) : Option (Int32) := rec4 tcp tK v1 (v2 + (1 : Int32))
def fX1_number_4  : Nat → Int32 → (Nat → Int32) → Int32 → Int32 → Option (Int32)
  | 0, _, _, _, _ => none
  | n + 1, tcp, tK, v1, v2 => if tcp ≤ v2 then (some (v1)) else ((fX5_isUsed tK v2).bind fun r2 => (if r2 = 0 then (fX1_number_37 (fX1_number_4 n) tcp tK v1 v2) else ((fX5_wrap tcp (v2 - (1 : Int32))).bind fun r4 => ((fX5_isUsed tK r4).bind fun r5 => (if r5 = 0 then (fX1_number_37 (fX1_number_4 n) tcp tK (v1 + (1 : Int32)) v2) else (fX1_number_37 (fX1_number_4 n) tcp tK v1 v2))))))
def fX1_number  (tcp : Int32) (tK : Nat → Int32) : Option (Int32) := fX1_number_4 1000 tcp tK (0 : Int32) (0 : Int32)
/-! HashLab$Clusters.sizeAt(LHashLab$Table;I)I: 54 instructions -/
def fX1_sizeAt_59  : Nat → Int32 → (Nat → Int32) → Int32 → Int32 → Option (Int32)
  | 0, _, _, _, _ => none
  | n + 1, tcp, tK, v2, v4 => if tcp ≤ v2 then (some (v2)) else ((fX5_isUsed tK v4).bind fun r10 => (if r10 = 0 then (some (v2)) else ((fX5_wrap tcp (v4 - (1 : Int32))).bind fun r12 => (fX1_sizeAt_59 n tcp tK (v2 + (1 : Int32)) r12))))
def fX1_sizeAt_50  (tcp : Int32) (tK : Nat → Int32) (v1 : Int32) (v2 : Int32) : Option (Int32) := (fX5_wrap tcp (v1 - (1 : Int32))).bind fun r8 => (fX1_sizeAt_59 1000 tcp tK v2 r8)
def fX1_sizeAt_20  : Nat → Int32 → (Nat → Int32) → Int32 → Int32 → Int32 → Option (Int32)
  | 0, _, _, _, _, _ => none
  | n + 1, tcp, tK, v1, v2, v3 => if tcp ≤ v2 then (fX1_sizeAt_50 tcp tK v1 v2) else ((fX5_isUsed tK v3).bind fun r5 => (if r5 = 0 then (fX1_sizeAt_50 tcp tK v1 v2) else ((fX5_wrap tcp (v3 + (1 : Int32))).bind fun r7 => (fX1_sizeAt_20 n tcp tK v1 (v2 + (1 : Int32)) r7))))
def fX1_sizeAt  (tcp : Int32) (tK : Nat → Int32) (x0 : Int32) : Option (Int32) := (fX5_isUsed tK x0).bind fun r1 => (if r1 = 0 then (some ((0 : Int32))) else ((fX5_wrap tcp (x0 + (1 : Int32))).bind fun r3 => (fX1_sizeAt_20 1000 tcp tK x0 (1 : Int32) r3)))
/-! HashLab$Clusters.largestAround(LHashLab$Table;)I: 44 instructions -/
def fX1_largestAround_62  (rec31 : Int32 → (Nat → Int32) → Int32 → Int32 → Int32 → Int32 → Option (Int32)) (tcp : Int32) (tK : Nat → Int32) (v1 : Int32) (v2 : Int32) (v4 : Int32) (k0 : Int32) : Option (Int32) := rec31 tcp tK v1 (if v2 < k0 then k0 else v2) k0 (v4 + (1 : Int32))
def fX1_largestAround_31  : Nat → Int32 → (Nat → Int32) → Int32 → Int32 → Int32 → Int32 → Option (Int32)
  | 0, _, _, _, _, _, _ => none
  | n + 1, tcp, tK, v1, v2, v3, v4 => if tcp < v4 then (some (v2)) else ((fX5_wrap tcp (v1 + v4)).bind fun r5 => ((fX5_isUsed tK r5).bind fun r6 => (if r6 = 0 then (fX1_largestAround_62 (fX1_largestAround_31 n) tcp tK v1 v2 v4 (0 : Int32)) else (fX1_largestAround_62 (fX1_largestAround_31 n) tcp tK v1 v2 v4 (v3 + (1 : Int32))))))
def fX1_largestAround_24  (tcp : Int32) (tK : Nat → Int32) (v1 : Int32) : Option (Int32) := fX1_largestAround_31 1000 tcp tK v1 (0 : Int32) (0 : Int32) (1 : Int32)
def fX1_largestAround_2  : Nat → Int32 → (Nat → Int32) → Int32 → Option (Int32)
  | 0, _, _, _ => none
  | n + 1, tcp, tK, v1 => if tcp ≤ v1 then (fX1_largestAround_24 tcp tK v1) else ((fX5_isUsed tK v1).bind fun r2 => (if r2 = 0 then (fX1_largestAround_24 tcp tK v1) else (fX1_largestAround_2 n tcp tK (v1 + (1 : Int32)))))
def fX1_largestAround  (tcp : Int32) (tK : Nat → Int32) : Option (Int32) := fX1_largestAround_2 1000 tcp tK (0 : Int32)
/-! HashLab$Clusters.usedBefore(LHashLab$Table;II)I: 18 instructions -/
def fX1_usedBefore_7  : Nat → (Nat → Int32) → Int32 → Int32 → Int32 → Option (Int32)
  | 0, _, _, _, _ => none
  | n + 1, tK, v2, v3, v4 => if v4 < v2 then (some (v3)) else ((fX5_isUsed tK v4).bind fun r2 => (if r2 = 0 then (some (v3)) else (fX1_usedBefore_7 n tK v2 (v3 + (1 : Int32)) (v4 + (-1 : Int32)))))
def fX1_usedBefore  (tK : Nat → Int32) (x0 : Int32) (x1 : Int32) : Option (Int32) := fX1_usedBefore_7 1000 tK x1 (0 : Int32) (x0 - (1 : Int32))
/-! HashLab$Clusters.usedFrom(LHashLab$Table;II)I: 16 instructions -/
def fX1_usedFrom_5  : Nat → (Nat → Int32) → Int32 → Int32 → Int32 → Option (Int32)
  | 0, _, _, _, _ => none
  | n + 1, tK, v2, v3, v4 => if v2 ≤ v4 then (some (v3)) else ((fX5_isUsed tK v4).bind fun r2 => (if r2 = 0 then (some (v3)) else (fX1_usedFrom_5 n tK v2 (v3 + (1 : Int32)) (v4 + (1 : Int32)))))
def fX1_usedFrom  (tK : Nat → Int32) (x0 : Int32) (x1 : Int32) : Option (Int32) := fX1_usedFrom_5 1000 tK x1 (0 : Int32) x0
/-! HashLab$Clusters.largestIn(LHashLab$Table;III)I: 57 instructions -/
def fX1_largestIn : Nat → (Nat → Int32) → Int32 → Int32 → Int32 → Option (Int32)
  | 0, _, _, _, _ => none
  | n + 1, tK, x0, x1, x2 => if x1 ≤ x0 then (some ((0 : Int32))) else (if x2 ≤ (8 : Int32) then (if (x1 - x0) = (1 : Int32) then ((fX5_isUsed tK x0).bind fun r8 => (if r8 = 0 then (some ((0 : Int32))) else (some ((1 : Int32))))) else ((fX1_largestIn n tK x0 ((x0 + x1) / (2 : Int32)) (x2 + (1 : Int32))).bind fun r4 => ((fX1_largestIn n tK ((x0 + x1) / (2 : Int32)) x1 (x2 + (1 : Int32))).bind fun r5 => ((fX1_usedBefore tK ((x0 + x1) / (2 : Int32)) x0).bind fun r6 => ((fX1_usedFrom tK ((x0 + x1) / (2 : Int32)) x1).bind fun r7 => (some (if (if r4 < r5 then r5 else r4) < (r6 + r7) then (r6 + r7) else (if r4 < r5 then r5 else r4)))))))) else (some ((0 : Int32))))
/-! HashLab$Clusters.largestOfHalves(LHashLab$Table;)I: 21 instructions -/
def fX1_largestOfHalves  (tcp : Int32) (tK : Nat → Int32) : Option (Int32) := (fX1_usedBefore tK tcp (0 : Int32)).bind fun r1 => ((fX1_usedFrom tK (0 : Int32) tcp).bind fun r2 => ((fX1_largestIn 12 tK (0 : Int32) tcp (0 : Int32)).bind fun r3 => (some (if (r1 + r2) < r3 then r3 else (r1 + r2)))))
/-! HashLab$Line.empty()V: 4 instructions -/
def fX3_empty  (ln : Int32) : Option (Int32) := some ((0 : Int32))
/-! HashLab$Line.add(C)V: 20 instructions -/
def fX3_add  (ln : Int32) (lS : Nat → Int32) (x0 : Int32) : Option (Int32 × (Nat → Int32)) := if ln < 0 then (some (ln, lS)) else (if (640 : Int32) ≤ ln then (some (ln, lS)) else (if hl_in ln 640 = true then (some (ln + (1 : Int32), upd lS (ln.toNatClampNeg) (vp_nar .char x0))) else none))
/-! HashLab$Line.addNumber(I)V: 34 instructions -/
def fX3_addNumber_47  (rec19 : Int32 → (Nat → Int32) → Int32 → Int32 → Option (Int32 × (Nat → Int32))) (ln : Int32) (lS : Nat → Int32) (v2 : Int32) (v3 : Int32) : Option (Int32 × (Nat → Int32)) := rec19 ln lS v2 (v3 / (10 : Int32))
def fX3_addNumber_33  (rec19 : Int32 → (Nat → Int32) → Int32 → Int32 → Option (Int32 × (Nat → Int32))) (ln : Int32) (lS : Nat → Int32) (v2 : Int32) (v3 : Int32) : Option (Int32 × (Nat → Int32)) := if v3 = 0 then none else (fX3_add ln lS (hl_c ((48 : Int32) + (hl_rem (v2 / v3) (10 : Int32))))).bind fun r7 => (fX3_addNumber_47 rec19 r7.1 r7.2 v2 v3)
def fX3_addNumber_19  : Nat → Int32 → (Nat → Int32) → Int32 → Int32 → Option (Int32 × (Nat → Int32))
  | 0, _, _, _, _ => none
  | n + 1, ln, lS, v2, v3 => if v3 ≤ 0 then (some (ln, lS)) else (if v3 ≤ v2 then (fX3_addNumber_33 (fX3_addNumber_19 n) ln lS v2 v3) else (if v3 = (1 : Int32) then (fX3_addNumber_33 (fX3_addNumber_19 n) ln lS v2 v3) else (fX3_addNumber_47 (fX3_addNumber_19 n) ln lS v2 v3)))
def fX3_addNumber_10  (ln : Int32) (lS : Nat → Int32) (v1 : Int32) : Option (Int32 × (Nat → Int32)) := fX3_addNumber_19 1000 ln lS (if 0 ≤ v1 then v1 else 0 - v1) (1000 : Int32)
def fX3_addNumber  (ln : Int32) (lS : Nat → Int32) (x0 : Int32) : Option (Int32 × (Nat → Int32)) := if 0 ≤ x0 then (fX3_addNumber_10 ln lS x0) else ((fX3_add ln lS (45 : Int32)).bind fun r2 => (fX3_addNumber_10 r2.1 r2.2 x0))
/-! HashLab$Line.signAt(I)C: 12 instructions -/
def fX3_signAt  (lS : Nat → Int32) (x0 : Int32) : Option (Int32) := if x0 < 0 then (if hl_nar .char (32 : Int32) = true then some ((32 : Int32)) else none) else (if (640 : Int32) ≤ x0 then (if hl_nar .char (32 : Int32) = true then some ((32 : Int32)) else none) else (if hl_in x0 640 = true then (if hl_nar .char (lS x0.toNatClampNeg) = true then some (lS x0.toNatClampNeg) else none) else none))
/-! HashLab$Bits.ofMean(D)J: 34 instructions -/
def fX0_ofMean_39  (v2 : UInt64) (v4 : Int64) : Option (Int64) := if hl_n64 (FP.dsub v2 FP.dconst1) = true then (if hl_n64 (FP.dmul (FP.dsub v2 FP.dconst1) (4841369599423283200 : UInt64)) = true then (some ((v4 <<< ((52 : Int32).toInt64 &&& 63)) ||| (FP.d2l (FP.dmul (FP.dsub v2 FP.dconst1) (4841369599423283200 : UInt64))))) else none) else none
def fX0_ofMean_7  : Nat → UInt64 → Int64 → Option (Int64)
  | 0, _, _ => none
  | n + 1, v2, v4 => if (Op.cmpValue (FP.dcmp v2 (4611686018427387904 : UInt64)) CmpOp.l) < 0 then (fX0_ofMean_39 v2 v4) else (if 0 ≤ (lg_cmp v4 (2046 : Int64)) then (fX0_ofMean_39 v2 v4) else (if hl_n64 (FP.ddiv v2 (4611686018427387904 : UInt64)) = true then (fX0_ofMean_7 n (FP.ddiv v2 (4611686018427387904 : UInt64)) (v4 + (1 : Int64))) else none))
def fX0_ofMean  (x0 : UInt64) : Option (Int64) := fX0_ofMean_7 1000 x0 (1023 : Int64)
/-! HashLab$Bits.ofShare(F)I: 36 instructions -/
def fX0_ofShare_34  (v1 : UInt32) (v2 : Int32) : Option (Int32) := if hl_n32 (FP.fsub v1 FP.fconst1) = true then (if hl_n32 (FP.fmul (FP.fsub v1 FP.fconst1) (1258291200 : UInt32)) = true then (some ((v2 <<< ((23 : Int32) &&& 31)) ||| (FP.f2i (FP.fmul (FP.fsub v1 FP.fconst1) (1258291200 : UInt32))))) else none) else none
def fX0_ofShare_13  : Nat → UInt32 → Int32 → Option (Int32)
  | 0, _, _ => none
  | n + 1, v1, v2 => if 0 ≤ (Op.cmpValue (FP.fcmp v1 FP.fconst1) CmpOp.g) then (fX0_ofShare_34 v1 v2) else (if v2 ≤ (1 : Int32) then (fX0_ofShare_34 v1 v2) else (if hl_n32 (FP.fmul v1 FP.fconst2) = true then (fX0_ofShare_13 n (FP.fmul v1 FP.fconst2) (v2 + (-1 : Int32))) else none))
def fX0_ofShare  (x0 : UInt32) : Option (Int32) := if 0 < (Op.cmpValue (FP.fcmp x0 FP.fconst0) CmpOp.g) then (fX0_ofShare_13 1000 x0 (127 : Int32)) else (some ((0 : Int32)))
/-! HashLab.isValue(I)Z: 10 instructions -/
def fX6_isValue  (x0 : Int32) : Option (Int32) := if x0 < (-999 : Int32) then (some ((0 : Int32))) else (if (999 : Int32) < x0 then (some ((0 : Int32))) else (some ((1 : Int32))))
/-! HashLab.isKind(I)Z: 9 instructions -/
def fX6_isKind  (x0 : Int32) : Option (Int32) := if x0 < 0 then (some ((0 : Int32))) else (if (3 : Int32) ≤ x0 then (some ((0 : Int32))) else (some ((1 : Int32))))
/-! HashLab.isSeed(I)Z: 9 instructions -/
def fX6_isSeed  (x0 : Int32) : Option (Int32) := if x0 < 0 then (some ((0 : Int32))) else (if (999 : Int32) < x0 then (some ((0 : Int32))) else (some ((1 : Int32))))
/-! HashLab.isLimit(I)Z: 10 instructions -/
def fX6_isLimit  (x0 : Int32) : Option (Int32) := if x0 < (25 : Int32) then (some ((0 : Int32))) else (if (90 : Int32) < x0 then (some ((0 : Int32))) else (some ((1 : Int32))))
/-! HashLab.isTrial(II)Z: 15 instructions -/
def fX6_isTrial  (x0 : Int32) (x1 : Int32) : Option (Int32) := if x0 < 0 then (some ((0 : Int32))) else (if (10007 : Int32) ≤ x0 then (some ((0 : Int32))) else (if x1 < (1 : Int32) then (some ((0 : Int32))) else (if (40 : Int32) < x1 then (some ((0 : Int32))) else (some ((1 : Int32))))))
abbrev rmX1_number : Room := { frames := 3, cells := 0, slots := 0, locals := 62 }
theorem hmX1_number : hMS yX1_number cX1_number 3 (some .int) 1 := ⟨q_455, q_29, q_454, by decide, by decide, by decide +kernel⟩
theorem dX1_number_0 : decode cX1_number 0 = .ok (.iconst 0, 1) := by decide +kernel
theorem dX1_number_1 : decode cX1_number 1 = .ok (.istore_n 1, 1) := by decide +kernel
theorem dX1_number_2 : decode cX1_number 2 = .ok (.iconst 0, 1) := by decide +kernel
theorem dX1_number_3 : decode cX1_number 3 = .ok (.istore_n 2, 1) := by decide +kernel
theorem dX1_number_4 : decode cX1_number 4 = .ok (.iload_n 2, 1) := by decide +kernel
theorem dX1_number_5 : decode cX1_number 5 = .ok (.aload_n 0, 1) := by decide +kernel
theorem dX1_number_6 : decode cX1_number 6 = .ok (.getfield 7, 3) := by decide +kernel
theorem dX1_number_9 : decode cX1_number 9 = .ok (.if_icmp .ge 34, 3) := by decide +kernel
theorem dX1_number_12 : decode cX1_number 12 = .ok (.aload_n 0, 1) := by decide +kernel
theorem dX1_number_13 : decode cX1_number 13 = .ok (.iload_n 2, 1) := by decide +kernel
theorem dX1_number_14 : decode cX1_number 14 = .ok (.invokevirtual 13, 3) := by decide +kernel
theorem dX1_number_17 : decode cX1_number 17 = .ok (.ifCond .eq 20, 3) := by decide +kernel
theorem dX1_number_20 : decode cX1_number 20 = .ok (.aload_n 0, 1) := by decide +kernel
theorem dX1_number_21 : decode cX1_number 21 = .ok (.aload_n 0, 1) := by decide +kernel
theorem dX1_number_22 : decode cX1_number 22 = .ok (.iload_n 2, 1) := by decide +kernel
theorem dX1_number_23 : decode cX1_number 23 = .ok (.iconst 1, 1) := by decide +kernel
theorem dX1_number_24 : decode cX1_number 24 = .ok (.isub, 1) := by decide +kernel
theorem dX1_number_25 : decode cX1_number 25 = .ok (.invokevirtual 17, 3) := by decide +kernel
theorem dX1_number_28 : decode cX1_number 28 = .ok (.invokevirtual 13, 3) := by decide +kernel
theorem dX1_number_31 : decode cX1_number 31 = .ok (.ifCond .ne 6, 3) := by decide +kernel
theorem dX1_number_34 : decode cX1_number 34 = .ok (.iinc 1 1, 3) := by decide +kernel
theorem dX1_number_37 : decode cX1_number 37 = .ok (.iinc 2 1, 3) := by decide +kernel
theorem dX1_number_40 : decode cX1_number 40 = .ok (.goto (-36), 3) := by decide +kernel
theorem dX1_number_43 : decode cX1_number 43 = .ok (.iload_n 1, 1) := by decide +kernel
theorem dX1_number_44 : decode cX1_number 44 = .ok (.ireturn, 1) := by decide +kernel
set_option maxHeartbeats 4000000 in
set_option maxRecDepth 100000 in
theorem bX1_number_37 {p : Program} {l : Launch} {e : Env} {s : State} {m : MethodId} {args : Array Value} {below : List Frame} {meth : Method} {c : Code} {D : va_G} {cB cC cI cO : ClassId} {A : Nat → Prop} (C0 : gC RX1 cX1_number 3 (some .int) p s m args meth c D (hTy cB cC cI cO) A) (h0 h1 h2 h3 h4 : Nat) (out : Int32) (tkd : Int32) (tsd : Int32) (tlm : Int32) (tfu : Int32) (ttb : Int32) (trb : Int32) (tgr : Int32) (tV : Nat → Int32) (tO : Nat → Int32) (tW : Nat → Int32) (rec4 : Int32 → (Nat → Int32) → Int32 → Int32 → Option (Int32)) (hrec4 : ∀ (tcp : Int32) (tK : Nat → Int32) (v1 : Int32) (v2 : Int32), rec4 tcp tK v1 v2 = some out → gG p l e rmX1_number s m args below meth c D A 3 (MQ below (hQi D [(h0, .inr (5, [.ref h1, .ref h2, .ref h3, .ref h4, .int tcp, .int tkd, .int tsd, .int tlm, .int tfu, .int ttb, .int trb, .int tgr])), (h1, .inl (cI, 64, .inl tK)), (h2, .inl (cI, 64, .inl tV)), (h3, .inl (cI, 64, .inl tO)), (h4, .inl (cI, 64, .inl tW))] out A) args s 0 0 A) 0 0 4 [(0, .ref h0), (1, .int v1), (2, .int v2)] [] [(h0, .inr (5, [.ref h1, .ref h2, .ref h3, .ref h4, .int tcp, .int tkd, .int tsd, .int tlm, .int tfu, .int ttb, .int trb, .int tgr])), (h1, .inl (cI, 64, .inl tK)), (h2, .inl (cI, 64, .inl tV)), (h3, .inl (cI, 64, .inl tO)), (h4, .inl (cI, 64, .inl tW))]) : ∀ (tcp : Int32) (tK : Nat → Int32) (v1 : Int32) (v2 : Int32), fX1_number_37 rec4 tcp tK v1 v2 = some out → gG p l e rmX1_number s m args below meth c D A 3 (MQ below (hQi D [(h0, .inr (5, [.ref h1, .ref h2, .ref h3, .ref h4, .int tcp, .int tkd, .int tsd, .int tlm, .int tfu, .int ttb, .int trb, .int tgr])), (h1, .inl (cI, 64, .inl tK)), (h2, .inl (cI, 64, .inl tV)), (h3, .inl (cI, 64, .inl tO)), (h4, .inl (cI, 64, .inl tW))] out A) args s 0 0 A) 0 0 37 [(0, .ref h0), (1, .int v1), (2, .int v2)] [] [(h0, .inr (5, [.ref h1, .ref h2, .ref h3, .ref h4, .int tcp, .int tkd, .int tsd, .int tlm, .int tfu, .int ttb, .int trb, .int tgr])), (h1, .inl (cI, 64, .inl tK)), (h2, .inl (cI, 64, .inl tV)), (h3, .inl (cI, 64, .inl tO)), (h4, .inl (cI, 64, .inl tW))] := by
  intro tcp tK v1 v2 hf
  unfold fX1_number_37 at hf
  refine g_iinc C0 (lv' := [(2, .int (v2 + (1 : Int32))), (0, .ref h0), (1, .int v1)]) dX1_number_37 2 rfl rfl (by decide) rfl ?_
  refine g_goto C0 (tgt := 4) dX1_number_40 (by decide) ?_
  refine g_lv [1, 2, 0] (lv' := [(0, .ref h0), (1, .int v1), (2, .int (v2 + (1 : Int32)))]) rfl ?_
  exact hrec4 tcp tK v1 (v2 + (1 : Int32)) hf
set_option maxHeartbeats 4000000 in
set_option maxRecDepth 100000 in
theorem bX1_number_4 {p : Program} {l : Launch} {e : Env} {s : State} {m : MethodId} {args : Array Value} {below : List Frame} {meth : Method} {c : Code} {D : va_G} {cB cC cI cO : ClassId} {A : Nat → Prop} (C0 : gC RX1 cX1_number 3 (some .int) p s m args meth c D (hTy cB cC cI cO) A) (h0 h1 h2 h3 h4 : Nat) (out : Int32) (tkd : Int32) (tsd : Int32) (tlm : Int32) (tfu : Int32) (ttb : Int32) (trb : Int32) (tgr : Int32) (tV : Nat → Int32) (tO : Nat → Int32) (tW : Nat → Int32)   : ∀ (n : Nat) (tcp : Int32) (tK : Nat → Int32) (v1 : Int32) (v2 : Int32), fX1_number_4 n tcp tK v1 v2 = some out → gG p l e rmX1_number s m args below meth c D A 3 (MQ below (hQi D [(h0, .inr (5, [.ref h1, .ref h2, .ref h3, .ref h4, .int tcp, .int tkd, .int tsd, .int tlm, .int tfu, .int ttb, .int trb, .int tgr])), (h1, .inl (cI, 64, .inl tK)), (h2, .inl (cI, 64, .inl tV)), (h3, .inl (cI, 64, .inl tO)), (h4, .inl (cI, 64, .inl tW))] out A) args s 0 0 A) 0 0 4 [(0, .ref h0), (1, .int v1), (2, .int v2)] [] [(h0, .inr (5, [.ref h1, .ref h2, .ref h3, .ref h4, .int tcp, .int tkd, .int tsd, .int tlm, .int tfu, .int ttb, .int trb, .int tgr])), (h1, .inl (cI, 64, .inl tK)), (h2, .inl (cI, 64, .inl tV)), (h3, .inl (cI, 64, .inl tO)), (h4, .inl (cI, 64, .inl tW))] := by
  intro n
  induction n with
  | zero => intro tcp tK v1 v2 hf; rw [fX1_number_4] at hf; cases hf
  | succ n ih =>
    intro tcp tK v1 v2 hf
    rw [fX1_number_4] at hf
    refine g_iload_n C0 dX1_number_4 rfl 2 rfl ?_
    refine g_aload_n C0 dX1_number_5 rfl 0 rfl ?_
    refine g_getN C0 hinX5 0 rfl rfl 4 (by decide) q_65 rfl dX1_number_6 ?_
    refine g_icmp_ge C0 (tgt := 43) dX1_number_9 (by decide) (fun c1 => ?_) (fun c1 => ?_)
    · rw [if_pos c1] at hf
      refine g_iload_n C0 dX1_number_43 rfl 1 rfl ?_
      cases hf
      exact g_iret C0 rfl dX1_number_44 rfl rfl
    · rw [if_neg c1] at hf
      refine g_aload_n C0 dX1_number_12 rfl 0 rfl ?_
      refine g_iload_n C0 dX1_number_13 rfl 2 rfl ?_
      obtain ⟨r2, er2, hf⟩ := hl_bd hf
      try dsimp only at hf
      refine g_callVi C0 (ws' := [(h0, .inr (5, [.ref h1, .ref h2, .ref h3, .ref h4, .int tcp, .int tkd, .int tsd, .int tlm, .int tfu, .int ttb, .int trb, .int tgr])), (h1, .inl (cI, 64, .inl tK)), (h2, .inl (cI, 64, .inl tV)), (h3, .inl (cI, 64, .inl tO)), (h4, .inl (cI, 64, .inl tW))]) (mX5_isUsed l D cB cC cI cO  h0 h1 h2 h3 h4 tcp tkd tsd tlm tfu ttb trb tgr tK tV tO tW v2 r2 er2) hmX5_isUsed q_456 ⟨Nat.le_of_ble_eq_true rfl, Nat.le_of_ble_eq_true rfl⟩ ⟨Nat.le_of_ble_eq_true rfl, Nat.le_of_ble_eq_true rfl⟩ rfl rfl [0, 1, 2, 3, 4] rfl rfl rfl rfl rfl 0 rfl rfl rfl (Nat.le_of_ble_eq_true rfl) dX1_number_14 ?_
      refine g_if_eq C0 (tgt := 37) dX1_number_17 (by decide) (fun c3 => ?_) (fun c3 => ?_)
      · rw [if_pos c3] at hf
        refine g_lv [0, 1, 2] (lv' := [(0, .ref h0), (1, .int v1), (2, .int v2)]) rfl ?_
        exact bX1_number_37 C0 h0 h1 h2 h3 h4 out tkd tsd tlm tfu ttb trb tgr tV tO tW (fX1_number_4 n) ih  tcp tK v1 v2 hf
      · rw [if_neg c3] at hf
        refine g_aload_n C0 dX1_number_20 rfl 0 rfl ?_
        refine g_aload_n C0 dX1_number_21 rfl 0 rfl ?_
        refine g_iload_n C0 dX1_number_22 rfl 2 rfl ?_
        refine g_iconst C0 (v := (1 : Int32)) dX1_number_23 (by decide) ?_
        refine g_isub C0 dX1_number_24 ?_
        obtain ⟨r4, er4, hf⟩ := hl_bd hf
        try dsimp only at hf
        refine g_callVNi C0 (ws' := [(h0, .inr (5, [.ref h1, .ref h2, .ref h3, .ref h4, .int tcp, .int tkd, .int tsd, .int tlm, .int tfu, .int ttb, .int trb, .int tgr])), (h1, .inl (cI, 64, .inl tK)), (h2, .inl (cI, 64, .inl tV)), (h3, .inl (cI, 64, .inl tO)), (h4, .inl (cI, 64, .inl tW))]) (mX5_wrap l D cB cC cI cO  h0 h1 h2 h3 h4 tcp tkd tsd tlm tfu ttb trb tgr tK tV tO tW (v2 - (1 : Int32)) r4 er4) hmX5_wrap q_460 ⟨Nat.le_of_ble_eq_true rfl, Nat.le_of_ble_eq_true rfl⟩ ⟨Nat.le_of_ble_eq_true rfl, Nat.le_of_ble_eq_true rfl⟩ rfl rfl [0, 1, 2, 3, 4] rfl rfl rfl rfl rfl 0 rfl rfl rfl (Nat.le_of_ble_eq_true rfl) dX1_number_25 ?_
        obtain ⟨r5, er5, hf⟩ := hl_bd hf
        try dsimp only at hf
        refine g_callVi C0 (ws' := [(h0, .inr (5, [.ref h1, .ref h2, .ref h3, .ref h4, .int tcp, .int tkd, .int tsd, .int tlm, .int tfu, .int ttb, .int trb, .int tgr])), (h1, .inl (cI, 64, .inl tK)), (h2, .inl (cI, 64, .inl tV)), (h3, .inl (cI, 64, .inl tO)), (h4, .inl (cI, 64, .inl tW))]) (mX5_isUsed l D cB cC cI cO  h0 h1 h2 h3 h4 tcp tkd tsd tlm tfu ttb trb tgr tK tV tO tW r4 r5 er5) hmX5_isUsed q_456 ⟨Nat.le_of_ble_eq_true rfl, Nat.le_of_ble_eq_true rfl⟩ ⟨Nat.le_of_ble_eq_true rfl, Nat.le_of_ble_eq_true rfl⟩ rfl rfl [0, 1, 2, 3, 4] rfl rfl rfl rfl rfl 0 rfl rfl rfl (Nat.le_of_ble_eq_true rfl) dX1_number_28 ?_
        refine g_if_ne C0 (tgt := 37) dX1_number_31 (by decide) (fun c6 => ?_) (fun c6 => ?_)
        · rw [if_neg c6] at hf
          refine g_lv [0, 1, 2] (lv' := [(0, .ref h0), (1, .int v1), (2, .int v2)]) rfl ?_
          exact bX1_number_37 C0 h0 h1 h2 h3 h4 out tkd tsd tlm tfu ttb trb tgr tV tO tW (fX1_number_4 n) ih  tcp tK v1 v2 hf
        · rw [if_pos c6] at hf
          refine g_iinc C0 (lv' := [(1, .int (v1 + (1 : Int32))), (0, .ref h0), (2, .int v2)]) dX1_number_34 1 rfl rfl (by decide) rfl ?_
          refine g_lv [1, 0, 2] (lv' := [(0, .ref h0), (1, .int (v1 + (1 : Int32))), (2, .int v2)]) rfl ?_
          exact bX1_number_37 C0 h0 h1 h2 h3 h4 out tkd tsd tlm tfu ttb trb tgr tV tO tW (fX1_number_4 n) ih  tcp tK (v1 + (1 : Int32)) v2 hf
set_option maxHeartbeats 4000000 in
set_option maxRecDepth 100000 in
theorem bX1_number {p : Program} {l : Launch} {e : Env} {s : State} {m : MethodId} {args : Array Value} {below : List Frame} {meth : Method} {c : Code} {D : va_G} {cB cC cI cO : ClassId} {A : Nat → Prop} (C0 : gC RX1 cX1_number 3 (some .int) p s m args meth c D (hTy cB cC cI cO) A) (h0 h1 h2 h3 h4 : Nat) (out : Int32) (tcp : Int32) (tkd : Int32) (tsd : Int32) (tlm : Int32) (tfu : Int32) (ttb : Int32) (trb : Int32) (tgr : Int32) (tK : Nat → Int32) (tV : Nat → Int32) (tO : Nat → Int32) (tW : Nat → Int32)  (hf : fX1_number tcp tK = some out) : gG p l e rmX1_number s m args below meth c D A 3 (MQ below (hQi D [(h0, .inr (5, [.ref h1, .ref h2, .ref h3, .ref h4, .int tcp, .int tkd, .int tsd, .int tlm, .int tfu, .int ttb, .int trb, .int tgr])), (h1, .inl (cI, 64, .inl tK)), (h2, .inl (cI, 64, .inl tV)), (h3, .inl (cI, 64, .inl tO)), (h4, .inl (cI, 64, .inl tW))] out A) args s 0 0 A) 0 0 0 [(0, .ref h0)] [] [(h0, .inr (5, [.ref h1, .ref h2, .ref h3, .ref h4, .int tcp, .int tkd, .int tsd, .int tlm, .int tfu, .int ttb, .int trb, .int tgr])), (h1, .inl (cI, 64, .inl tK)), (h2, .inl (cI, 64, .inl tV)), (h3, .inl (cI, 64, .inl tO)), (h4, .inl (cI, 64, .inl tW))] := by
  unfold fX1_number at hf
  refine g_iconst C0 (v := (0 : Int32)) dX1_number_0 (by decide) ?_
  refine g_istore_n C0 (lv' := [(1, .int (0 : Int32)), (0, .ref h0)]) dX1_number_1 rfl (by decide) rfl ?_
  refine g_iconst C0 (v := (0 : Int32)) dX1_number_2 (by decide) ?_
  refine g_istore_n C0 (lv' := [(2, .int (0 : Int32)), (1, .int (0 : Int32)), (0, .ref h0)]) dX1_number_3 rfl (by decide) rfl ?_
  refine g_lv [2, 1, 0] (lv' := [(0, .ref h0), (1, .int (0 : Int32)), (2, .int (0 : Int32))]) rfl ?_
  exact bX1_number_4 C0 h0 h1 h2 h3 h4 out tkd tsd tlm tfu ttb trb tgr tV tO tW  1000 tcp tK (0 : Int32) (0 : Int32) hf
theorem mX1_number (l : Launch) (D : va_G) (cB cC cI cO : ClassId)  (h0 h1 h2 h3 h4 : Nat) (tcp : Int32) (tkd : Int32) (tsd : Int32) (tlm : Int32) (tfu : Int32) (ttb : Int32) (trb : Int32) (tgr : Int32) (tK : Nat → Int32) (tV : Nat → Int32) (tO : Nat → Int32) (tW : Nat → Int32)  (out : Int32) (hf : fX1_number tcp tK = some out) : ∀ sz, Met l yX1_number (ws_ yX1_number cX1_number 3 (some .int)) rmX1_number (va_Pc [.ref h0] (hPre D (hTy cB cC cI cO) [(h0, .inr (5, [.ref h1, .ref h2, .ref h3, .ref h4, .int tcp, .int tkd, .int tsd, .int tlm, .int tfu, .int ttb, .int trb, .int tgr])), (h1, .inl (cI, 64, .inl tK)), (h2, .inl (cI, 64, .inl tV)), (h3, .inl (cI, 64, .inl tO)), (h4, .inl (cI, 64, .inl tW))] sz)) (hQi D [(h0, .inr (5, [.ref h1, .ref h2, .ref h3, .ref h4, .int tcp, .int tkd, .int tsd, .int tlm, .int tfu, .int ttb, .int trb, .int tgr])), (h1, .inl (cI, 64, .inl tK)), (h2, .inl (cI, 64, .inl tV)), (h3, .inl (cI, 64, .inl tO)), (h4, .inl (cI, 64, .inl tW))] out (va_A [(h0, .inr (5, [.ref h1, .ref h2, .ref h3, .ref h4, .int tcp, .int tkd, .int tsd, .int tlm, .int tfu, .int ttb, .int trb, .int tgr])), (h1, .inl (cI, 64, .inl tK)), (h2, .inl (cI, 64, .inl tV)), (h3, .inl (cI, 64, .inl tO)), (h4, .inl (cI, 64, .inl tW))] sz)) 0 0 (va_A [(h0, .inr (5, [.ref h1, .ref h2, .ref h3, .ref h4, .int tcp, .int tkd, .int tsd, .int tlm, .int tfu, .int ttb, .int trb, .int tgr])), (h1, .inl (cI, 64, .inl tK)), (h2, .inl (cI, 64, .inl tV)), (h3, .inl (cI, 64, .inl tO)), (h4, .inl (cI, 64, .inl tW))] sz) :=
  g_met (Qf := fun A => hQi D [(h0, .inr (5, [.ref h1, .ref h2, .ref h3, .ref h4, .int tcp, .int tkd, .int tsd, .int tlm, .int tfu, .int ttb, .int trb, .int tgr])), (h1, .inl (cI, 64, .inl tK)), (h2, .inl (cI, 64, .inl tV)), (h3, .inl (cI, 64, .inl tO)), (h4, .inl (cI, 64, .inl tW))] out A) (by decide +kernel) (Nat.le_of_ble_eq_true rfl) rfl (fun C0 => bX1_number C0 h0 h1 h2 h3 h4 out tcp tkd tsd tlm tfu ttb trb tgr tK tV tO tW  hf)
abbrev rmX1_sizeAt : Room := { frames := 3, cells := 0, slots := 0, locals := 62 }
theorem hmX1_sizeAt : hMS yX1_sizeAt cX1_sizeAt 5 (some .int) 2 := ⟨q_467, q_29, q_466, by decide, by decide, by decide +kernel⟩
theorem dX1_sizeAt_0 : decode cX1_sizeAt 0 = .ok (.aload_n 0, 1) := by decide +kernel
theorem dX1_sizeAt_1 : decode cX1_sizeAt 1 = .ok (.iload_n 1, 1) := by decide +kernel
theorem dX1_sizeAt_2 : decode cX1_sizeAt 2 = .ok (.invokevirtual 13, 3) := by decide +kernel
theorem dX1_sizeAt_5 : decode cX1_sizeAt 5 = .ok (.ifCond .ne 5, 3) := by decide +kernel
theorem dX1_sizeAt_8 : decode cX1_sizeAt 8 = .ok (.iconst 0, 1) := by decide +kernel
theorem dX1_sizeAt_9 : decode cX1_sizeAt 9 = .ok (.ireturn, 1) := by decide +kernel
theorem dX1_sizeAt_10 : decode cX1_sizeAt 10 = .ok (.iconst 1, 1) := by decide +kernel
theorem dX1_sizeAt_11 : decode cX1_sizeAt 11 = .ok (.istore_n 2, 1) := by decide +kernel
theorem dX1_sizeAt_12 : decode cX1_sizeAt 12 = .ok (.aload_n 0, 1) := by decide +kernel
theorem dX1_sizeAt_13 : decode cX1_sizeAt 13 = .ok (.iload_n 1, 1) := by decide +kernel
theorem dX1_sizeAt_14 : decode cX1_sizeAt 14 = .ok (.iconst 1, 1) := by decide +kernel
theorem dX1_sizeAt_15 : decode cX1_sizeAt 15 = .ok (.iadd, 1) := by decide +kernel
theorem dX1_sizeAt_16 : decode cX1_sizeAt 16 = .ok (.invokevirtual 17, 3) := by decide +kernel
theorem dX1_sizeAt_19 : decode cX1_sizeAt 19 = .ok (.istore_n 3, 1) := by decide +kernel
theorem dX1_sizeAt_20 : decode cX1_sizeAt 20 = .ok (.iload_n 2, 1) := by decide +kernel
theorem dX1_sizeAt_21 : decode cX1_sizeAt 21 = .ok (.aload_n 0, 1) := by decide +kernel
theorem dX1_sizeAt_22 : decode cX1_sizeAt 22 = .ok (.getfield 7, 3) := by decide +kernel
theorem dX1_sizeAt_25 : decode cX1_sizeAt 25 = .ok (.if_icmp .ge 25, 3) := by decide +kernel
theorem dX1_sizeAt_28 : decode cX1_sizeAt 28 = .ok (.aload_n 0, 1) := by decide +kernel
theorem dX1_sizeAt_29 : decode cX1_sizeAt 29 = .ok (.iload_n 3, 1) := by decide +kernel
theorem dX1_sizeAt_30 : decode cX1_sizeAt 30 = .ok (.invokevirtual 13, 3) := by decide +kernel
theorem dX1_sizeAt_33 : decode cX1_sizeAt 33 = .ok (.ifCond .eq 17, 3) := by decide +kernel
theorem dX1_sizeAt_36 : decode cX1_sizeAt 36 = .ok (.iinc 2 1, 3) := by decide +kernel
theorem dX1_sizeAt_39 : decode cX1_sizeAt 39 = .ok (.aload_n 0, 1) := by decide +kernel
theorem dX1_sizeAt_40 : decode cX1_sizeAt 40 = .ok (.iload_n 3, 1) := by decide +kernel
theorem dX1_sizeAt_41 : decode cX1_sizeAt 41 = .ok (.iconst 1, 1) := by decide +kernel
theorem dX1_sizeAt_42 : decode cX1_sizeAt 42 = .ok (.iadd, 1) := by decide +kernel
theorem dX1_sizeAt_43 : decode cX1_sizeAt 43 = .ok (.invokevirtual 17, 3) := by decide +kernel
theorem dX1_sizeAt_46 : decode cX1_sizeAt 46 = .ok (.istore_n 3, 1) := by decide +kernel
theorem dX1_sizeAt_47 : decode cX1_sizeAt 47 = .ok (.goto (-27), 3) := by decide +kernel
theorem dX1_sizeAt_50 : decode cX1_sizeAt 50 = .ok (.aload_n 0, 1) := by decide +kernel
theorem dX1_sizeAt_51 : decode cX1_sizeAt 51 = .ok (.iload_n 1, 1) := by decide +kernel
theorem dX1_sizeAt_52 : decode cX1_sizeAt 52 = .ok (.iconst 1, 1) := by decide +kernel
theorem dX1_sizeAt_53 : decode cX1_sizeAt 53 = .ok (.isub, 1) := by decide +kernel
theorem dX1_sizeAt_54 : decode cX1_sizeAt 54 = .ok (.invokevirtual 17, 3) := by decide +kernel
theorem dX1_sizeAt_57 : decode cX1_sizeAt 57 = .ok (.istore 4, 2) := by decide +kernel
theorem dX1_sizeAt_59 : decode cX1_sizeAt 59 = .ok (.iload_n 2, 1) := by decide +kernel
theorem dX1_sizeAt_60 : decode cX1_sizeAt 60 = .ok (.aload_n 0, 1) := by decide +kernel
theorem dX1_sizeAt_61 : decode cX1_sizeAt 61 = .ok (.getfield 7, 3) := by decide +kernel
theorem dX1_sizeAt_64 : decode cX1_sizeAt 64 = .ok (.if_icmp .ge 28, 3) := by decide +kernel
theorem dX1_sizeAt_67 : decode cX1_sizeAt 67 = .ok (.aload_n 0, 1) := by decide +kernel
theorem dX1_sizeAt_68 : decode cX1_sizeAt 68 = .ok (.iload 4, 2) := by decide +kernel
theorem dX1_sizeAt_70 : decode cX1_sizeAt 70 = .ok (.invokevirtual 13, 3) := by decide +kernel
theorem dX1_sizeAt_73 : decode cX1_sizeAt 73 = .ok (.ifCond .eq 19, 3) := by decide +kernel
theorem dX1_sizeAt_76 : decode cX1_sizeAt 76 = .ok (.iinc 2 1, 3) := by decide +kernel
theorem dX1_sizeAt_79 : decode cX1_sizeAt 79 = .ok (.aload_n 0, 1) := by decide +kernel
theorem dX1_sizeAt_80 : decode cX1_sizeAt 80 = .ok (.iload 4, 2) := by decide +kernel
theorem dX1_sizeAt_82 : decode cX1_sizeAt 82 = .ok (.iconst 1, 1) := by decide +kernel
theorem dX1_sizeAt_83 : decode cX1_sizeAt 83 = .ok (.isub, 1) := by decide +kernel
theorem dX1_sizeAt_84 : decode cX1_sizeAt 84 = .ok (.invokevirtual 17, 3) := by decide +kernel
theorem dX1_sizeAt_87 : decode cX1_sizeAt 87 = .ok (.istore 4, 2) := by decide +kernel
theorem dX1_sizeAt_89 : decode cX1_sizeAt 89 = .ok (.goto (-30), 3) := by decide +kernel
theorem dX1_sizeAt_92 : decode cX1_sizeAt 92 = .ok (.iload_n 2, 1) := by decide +kernel
theorem dX1_sizeAt_93 : decode cX1_sizeAt 93 = .ok (.ireturn, 1) := by decide +kernel
set_option maxHeartbeats 4000000 in
set_option maxRecDepth 100000 in
theorem bX1_sizeAt_59 {p : Program} {l : Launch} {e : Env} {s : State} {m : MethodId} {args : Array Value} {below : List Frame} {meth : Method} {c : Code} {D : va_G} {cB cC cI cO : ClassId} {A : Nat → Prop} (C0 : gC RX1 cX1_sizeAt 5 (some .int) p s m args meth c D (hTy cB cC cI cO) A) (h0 h1 h2 h3 h4 : Nat) (out : Int32) (tkd : Int32) (tsd : Int32) (tlm : Int32) (tfu : Int32) (ttb : Int32) (trb : Int32) (tgr : Int32) (tV : Nat → Int32) (tO : Nat → Int32) (tW : Nat → Int32)   : ∀ (n : Nat) (tcp : Int32) (tK : Nat → Int32) (v2 : Int32) (v4 : Int32), fX1_sizeAt_59 n tcp tK v2 v4 = some out → gG p l e rmX1_sizeAt s m args below meth c D A 5 (MQ below (hQi D [(h0, .inr (5, [.ref h1, .ref h2, .ref h3, .ref h4, .int tcp, .int tkd, .int tsd, .int tlm, .int tfu, .int ttb, .int trb, .int tgr])), (h1, .inl (cI, 64, .inl tK)), (h2, .inl (cI, 64, .inl tV)), (h3, .inl (cI, 64, .inl tO)), (h4, .inl (cI, 64, .inl tW))] out A) args s 0 0 A) 0 0 59 [(0, .ref h0), (2, .int v2), (4, .int v4)] [] [(h0, .inr (5, [.ref h1, .ref h2, .ref h3, .ref h4, .int tcp, .int tkd, .int tsd, .int tlm, .int tfu, .int ttb, .int trb, .int tgr])), (h1, .inl (cI, 64, .inl tK)), (h2, .inl (cI, 64, .inl tV)), (h3, .inl (cI, 64, .inl tO)), (h4, .inl (cI, 64, .inl tW))] := by
  intro n
  induction n with
  | zero => intro tcp tK v2 v4 hf; rw [fX1_sizeAt_59] at hf; cases hf
  | succ n ih =>
    intro tcp tK v2 v4 hf
    rw [fX1_sizeAt_59] at hf
    refine g_iload_n C0 dX1_sizeAt_59 rfl 1 rfl ?_
    refine g_aload_n C0 dX1_sizeAt_60 rfl 0 rfl ?_
    refine g_getN C0 hinX5 0 rfl rfl 4 (by decide) q_65 rfl dX1_sizeAt_61 ?_
    refine g_icmp_ge C0 (tgt := 92) dX1_sizeAt_64 (by decide) (fun c9 => ?_) (fun c9 => ?_)
    · rw [if_pos c9] at hf
      refine g_iload_n C0 dX1_sizeAt_92 rfl 1 rfl ?_
      cases hf
      exact g_iret C0 rfl dX1_sizeAt_93 rfl rfl
    · rw [if_neg c9] at hf
      refine g_aload_n C0 dX1_sizeAt_67 rfl 0 rfl ?_
      refine g_iload C0 dX1_sizeAt_68 2 rfl ?_
      obtain ⟨r10, er10, hf⟩ := hl_bd hf
      try dsimp only at hf
      refine g_callVi C0 (ws' := [(h0, .inr (5, [.ref h1, .ref h2, .ref h3, .ref h4, .int tcp, .int tkd, .int tsd, .int tlm, .int tfu, .int ttb, .int trb, .int tgr])), (h1, .inl (cI, 64, .inl tK)), (h2, .inl (cI, 64, .inl tV)), (h3, .inl (cI, 64, .inl tO)), (h4, .inl (cI, 64, .inl tW))]) (mX5_isUsed l D cB cC cI cO  h0 h1 h2 h3 h4 tcp tkd tsd tlm tfu ttb trb tgr tK tV tO tW v4 r10 er10) hmX5_isUsed q_456 ⟨Nat.le_of_ble_eq_true rfl, Nat.le_of_ble_eq_true rfl⟩ ⟨Nat.le_of_ble_eq_true rfl, Nat.le_of_ble_eq_true rfl⟩ rfl rfl [0, 1, 2, 3, 4] rfl rfl rfl rfl rfl 0 rfl rfl rfl (Nat.le_of_ble_eq_true rfl) dX1_sizeAt_70 ?_
      refine g_if_eq C0 (tgt := 92) dX1_sizeAt_73 (by decide) (fun c11 => ?_) (fun c11 => ?_)
      · rw [if_pos c11] at hf
        refine g_iload_n C0 dX1_sizeAt_92 rfl 1 rfl ?_
        cases hf
        exact g_iret C0 rfl dX1_sizeAt_93 rfl rfl
      · rw [if_neg c11] at hf
        refine g_iinc C0 (lv' := [(2, .int (v2 + (1 : Int32))), (0, .ref h0), (4, .int v4)]) dX1_sizeAt_76 1 rfl rfl (by decide) rfl ?_
        refine g_aload_n C0 dX1_sizeAt_79 rfl 1 rfl ?_
        refine g_iload C0 dX1_sizeAt_80 2 rfl ?_
        refine g_iconst C0 (v := (1 : Int32)) dX1_sizeAt_82 (by decide) ?_
        refine g_isub C0 dX1_sizeAt_83 ?_
        obtain ⟨r12, er12, hf⟩ := hl_bd hf
        try dsimp only at hf
        refine g_callVNi C0 (ws' := [(h0, .inr (5, [.ref h1, .ref h2, .ref h3, .ref h4, .int tcp, .int tkd, .int tsd, .int tlm, .int tfu, .int ttb, .int trb, .int tgr])), (h1, .inl (cI, 64, .inl tK)), (h2, .inl (cI, 64, .inl tV)), (h3, .inl (cI, 64, .inl tO)), (h4, .inl (cI, 64, .inl tW))]) (mX5_wrap l D cB cC cI cO  h0 h1 h2 h3 h4 tcp tkd tsd tlm tfu ttb trb tgr tK tV tO tW (v4 - (1 : Int32)) r12 er12) hmX5_wrap q_460 ⟨Nat.le_of_ble_eq_true rfl, Nat.le_of_ble_eq_true rfl⟩ ⟨Nat.le_of_ble_eq_true rfl, Nat.le_of_ble_eq_true rfl⟩ rfl rfl [0, 1, 2, 3, 4] rfl rfl rfl rfl rfl 0 rfl rfl rfl (Nat.le_of_ble_eq_true rfl) dX1_sizeAt_84 ?_
        refine g_istore C0 (lv' := [(4, .int r12), (2, .int (v2 + (1 : Int32))), (0, .ref h0)]) dX1_sizeAt_87 (by decide) rfl ?_
        refine g_goto C0 (tgt := 59) dX1_sizeAt_89 (by decide) ?_
        refine g_lv [2, 1, 0] (lv' := [(0, .ref h0), (2, .int (v2 + (1 : Int32))), (4, .int r12)]) rfl ?_
        exact ih tcp tK (v2 + (1 : Int32)) r12 hf
set_option maxHeartbeats 4000000 in
set_option maxRecDepth 100000 in
theorem bX1_sizeAt_50 {p : Program} {l : Launch} {e : Env} {s : State} {m : MethodId} {args : Array Value} {below : List Frame} {meth : Method} {c : Code} {D : va_G} {cB cC cI cO : ClassId} {A : Nat → Prop} (C0 : gC RX1 cX1_sizeAt 5 (some .int) p s m args meth c D (hTy cB cC cI cO) A) (h0 h1 h2 h3 h4 : Nat) (out : Int32) (tkd : Int32) (tsd : Int32) (tlm : Int32) (tfu : Int32) (ttb : Int32) (trb : Int32) (tgr : Int32) (tV : Nat → Int32) (tO : Nat → Int32) (tW : Nat → Int32)   : ∀ (tcp : Int32) (tK : Nat → Int32) (v1 : Int32) (v2 : Int32), fX1_sizeAt_50 tcp tK v1 v2 = some out → gG p l e rmX1_sizeAt s m args below meth c D A 5 (MQ below (hQi D [(h0, .inr (5, [.ref h1, .ref h2, .ref h3, .ref h4, .int tcp, .int tkd, .int tsd, .int tlm, .int tfu, .int ttb, .int trb, .int tgr])), (h1, .inl (cI, 64, .inl tK)), (h2, .inl (cI, 64, .inl tV)), (h3, .inl (cI, 64, .inl tO)), (h4, .inl (cI, 64, .inl tW))] out A) args s 0 0 A) 0 0 50 [(0, .ref h0), (1, .int v1), (2, .int v2)] [] [(h0, .inr (5, [.ref h1, .ref h2, .ref h3, .ref h4, .int tcp, .int tkd, .int tsd, .int tlm, .int tfu, .int ttb, .int trb, .int tgr])), (h1, .inl (cI, 64, .inl tK)), (h2, .inl (cI, 64, .inl tV)), (h3, .inl (cI, 64, .inl tO)), (h4, .inl (cI, 64, .inl tW))] := by
  intro tcp tK v1 v2 hf
  unfold fX1_sizeAt_50 at hf
  refine g_aload_n C0 dX1_sizeAt_50 rfl 0 rfl ?_
  refine g_iload_n C0 dX1_sizeAt_51 rfl 1 rfl ?_
  refine g_iconst C0 (v := (1 : Int32)) dX1_sizeAt_52 (by decide) ?_
  refine g_isub C0 dX1_sizeAt_53 ?_
  obtain ⟨r8, er8, hf⟩ := hl_bd hf
  try dsimp only at hf
  refine g_callVNi C0 (ws' := [(h0, .inr (5, [.ref h1, .ref h2, .ref h3, .ref h4, .int tcp, .int tkd, .int tsd, .int tlm, .int tfu, .int ttb, .int trb, .int tgr])), (h1, .inl (cI, 64, .inl tK)), (h2, .inl (cI, 64, .inl tV)), (h3, .inl (cI, 64, .inl tO)), (h4, .inl (cI, 64, .inl tW))]) (mX5_wrap l D cB cC cI cO  h0 h1 h2 h3 h4 tcp tkd tsd tlm tfu ttb trb tgr tK tV tO tW (v1 - (1 : Int32)) r8 er8) hmX5_wrap q_460 ⟨Nat.le_of_ble_eq_true rfl, Nat.le_of_ble_eq_true rfl⟩ ⟨Nat.le_of_ble_eq_true rfl, Nat.le_of_ble_eq_true rfl⟩ rfl rfl [0, 1, 2, 3, 4] rfl rfl rfl rfl rfl 0 rfl rfl rfl (Nat.le_of_ble_eq_true rfl) dX1_sizeAt_54 ?_
  refine g_istore C0 (lv' := [(4, .int r8), (0, .ref h0), (1, .int v1), (2, .int v2)]) dX1_sizeAt_57 (by decide) rfl ?_
  refine g_lv [1, 3, 0] (lv' := [(0, .ref h0), (2, .int v2), (4, .int r8)]) rfl ?_
  exact bX1_sizeAt_59 C0 h0 h1 h2 h3 h4 out tkd tsd tlm tfu ttb trb tgr tV tO tW  1000 tcp tK v2 r8 hf
set_option maxHeartbeats 4000000 in
set_option maxRecDepth 100000 in
theorem bX1_sizeAt_20 {p : Program} {l : Launch} {e : Env} {s : State} {m : MethodId} {args : Array Value} {below : List Frame} {meth : Method} {c : Code} {D : va_G} {cB cC cI cO : ClassId} {A : Nat → Prop} (C0 : gC RX1 cX1_sizeAt 5 (some .int) p s m args meth c D (hTy cB cC cI cO) A) (h0 h1 h2 h3 h4 : Nat) (out : Int32) (tkd : Int32) (tsd : Int32) (tlm : Int32) (tfu : Int32) (ttb : Int32) (trb : Int32) (tgr : Int32) (tV : Nat → Int32) (tO : Nat → Int32) (tW : Nat → Int32)   : ∀ (n : Nat) (tcp : Int32) (tK : Nat → Int32) (v1 : Int32) (v2 : Int32) (v3 : Int32), fX1_sizeAt_20 n tcp tK v1 v2 v3 = some out → gG p l e rmX1_sizeAt s m args below meth c D A 5 (MQ below (hQi D [(h0, .inr (5, [.ref h1, .ref h2, .ref h3, .ref h4, .int tcp, .int tkd, .int tsd, .int tlm, .int tfu, .int ttb, .int trb, .int tgr])), (h1, .inl (cI, 64, .inl tK)), (h2, .inl (cI, 64, .inl tV)), (h3, .inl (cI, 64, .inl tO)), (h4, .inl (cI, 64, .inl tW))] out A) args s 0 0 A) 0 0 20 [(0, .ref h0), (1, .int v1), (2, .int v2), (3, .int v3)] [] [(h0, .inr (5, [.ref h1, .ref h2, .ref h3, .ref h4, .int tcp, .int tkd, .int tsd, .int tlm, .int tfu, .int ttb, .int trb, .int tgr])), (h1, .inl (cI, 64, .inl tK)), (h2, .inl (cI, 64, .inl tV)), (h3, .inl (cI, 64, .inl tO)), (h4, .inl (cI, 64, .inl tW))] := by
  intro n
  induction n with
  | zero => intro tcp tK v1 v2 v3 hf; rw [fX1_sizeAt_20] at hf; cases hf
  | succ n ih =>
    intro tcp tK v1 v2 v3 hf
    rw [fX1_sizeAt_20] at hf
    refine g_iload_n C0 dX1_sizeAt_20 rfl 2 rfl ?_
    refine g_aload_n C0 dX1_sizeAt_21 rfl 0 rfl ?_
    refine g_getN C0 hinX5 0 rfl rfl 4 (by decide) q_65 rfl dX1_sizeAt_22 ?_
    refine g_icmp_ge C0 (tgt := 50) dX1_sizeAt_25 (by decide) (fun c4 => ?_) (fun c4 => ?_)
    · rw [if_pos c4] at hf
      refine g_lv [0, 1, 2] (lv' := [(0, .ref h0), (1, .int v1), (2, .int v2)]) rfl ?_
      exact bX1_sizeAt_50 C0 h0 h1 h2 h3 h4 out tkd tsd tlm tfu ttb trb tgr tV tO tW  tcp tK v1 v2 hf
    · rw [if_neg c4] at hf
      refine g_aload_n C0 dX1_sizeAt_28 rfl 0 rfl ?_
      refine g_iload_n C0 dX1_sizeAt_29 rfl 3 rfl ?_
      obtain ⟨r5, er5, hf⟩ := hl_bd hf
      try dsimp only at hf
      refine g_callVi C0 (ws' := [(h0, .inr (5, [.ref h1, .ref h2, .ref h3, .ref h4, .int tcp, .int tkd, .int tsd, .int tlm, .int tfu, .int ttb, .int trb, .int tgr])), (h1, .inl (cI, 64, .inl tK)), (h2, .inl (cI, 64, .inl tV)), (h3, .inl (cI, 64, .inl tO)), (h4, .inl (cI, 64, .inl tW))]) (mX5_isUsed l D cB cC cI cO  h0 h1 h2 h3 h4 tcp tkd tsd tlm tfu ttb trb tgr tK tV tO tW v3 r5 er5) hmX5_isUsed q_456 ⟨Nat.le_of_ble_eq_true rfl, Nat.le_of_ble_eq_true rfl⟩ ⟨Nat.le_of_ble_eq_true rfl, Nat.le_of_ble_eq_true rfl⟩ rfl rfl [0, 1, 2, 3, 4] rfl rfl rfl rfl rfl 0 rfl rfl rfl (Nat.le_of_ble_eq_true rfl) dX1_sizeAt_30 ?_
      refine g_if_eq C0 (tgt := 50) dX1_sizeAt_33 (by decide) (fun c6 => ?_) (fun c6 => ?_)
      · rw [if_pos c6] at hf
        refine g_lv [0, 1, 2] (lv' := [(0, .ref h0), (1, .int v1), (2, .int v2)]) rfl ?_
        exact bX1_sizeAt_50 C0 h0 h1 h2 h3 h4 out tkd tsd tlm tfu ttb trb tgr tV tO tW  tcp tK v1 v2 hf
      · rw [if_neg c6] at hf
        refine g_iinc C0 (lv' := [(2, .int (v2 + (1 : Int32))), (0, .ref h0), (1, .int v1), (3, .int v3)]) dX1_sizeAt_36 2 rfl rfl (by decide) rfl ?_
        refine g_aload_n C0 dX1_sizeAt_39 rfl 1 rfl ?_
        refine g_iload_n C0 dX1_sizeAt_40 rfl 3 rfl ?_
        refine g_iconst C0 (v := (1 : Int32)) dX1_sizeAt_41 (by decide) ?_
        refine g_iadd C0 dX1_sizeAt_42 ?_
        obtain ⟨r7, er7, hf⟩ := hl_bd hf
        try dsimp only at hf
        refine g_callVNi C0 (ws' := [(h0, .inr (5, [.ref h1, .ref h2, .ref h3, .ref h4, .int tcp, .int tkd, .int tsd, .int tlm, .int tfu, .int ttb, .int trb, .int tgr])), (h1, .inl (cI, 64, .inl tK)), (h2, .inl (cI, 64, .inl tV)), (h3, .inl (cI, 64, .inl tO)), (h4, .inl (cI, 64, .inl tW))]) (mX5_wrap l D cB cC cI cO  h0 h1 h2 h3 h4 tcp tkd tsd tlm tfu ttb trb tgr tK tV tO tW (v3 + (1 : Int32)) r7 er7) hmX5_wrap q_460 ⟨Nat.le_of_ble_eq_true rfl, Nat.le_of_ble_eq_true rfl⟩ ⟨Nat.le_of_ble_eq_true rfl, Nat.le_of_ble_eq_true rfl⟩ rfl rfl [0, 1, 2, 3, 4] rfl rfl rfl rfl rfl 0 rfl rfl rfl (Nat.le_of_ble_eq_true rfl) dX1_sizeAt_43 ?_
        refine g_istore_n C0 (lv' := [(3, .int r7), (2, .int (v2 + (1 : Int32))), (0, .ref h0), (1, .int v1)]) dX1_sizeAt_46 rfl (by decide) rfl ?_
        refine g_goto C0 (tgt := 20) dX1_sizeAt_47 (by decide) ?_
        refine g_lv [2, 3, 1, 0] (lv' := [(0, .ref h0), (1, .int v1), (2, .int (v2 + (1 : Int32))), (3, .int r7)]) rfl ?_
        exact ih tcp tK v1 (v2 + (1 : Int32)) r7 hf
set_option maxHeartbeats 4000000 in
set_option maxRecDepth 100000 in
theorem bX1_sizeAt {p : Program} {l : Launch} {e : Env} {s : State} {m : MethodId} {args : Array Value} {below : List Frame} {meth : Method} {c : Code} {D : va_G} {cB cC cI cO : ClassId} {A : Nat → Prop} (C0 : gC RX1 cX1_sizeAt 5 (some .int) p s m args meth c D (hTy cB cC cI cO) A) (h0 h1 h2 h3 h4 : Nat) (out : Int32) (tcp : Int32) (tkd : Int32) (tsd : Int32) (tlm : Int32) (tfu : Int32) (ttb : Int32) (trb : Int32) (tgr : Int32) (tK : Nat → Int32) (tV : Nat → Int32) (tO : Nat → Int32) (tW : Nat → Int32) (x0 : Int32) (hf : fX1_sizeAt tcp tK x0 = some out) : gG p l e rmX1_sizeAt s m args below meth c D A 5 (MQ below (hQi D [(h0, .inr (5, [.ref h1, .ref h2, .ref h3, .ref h4, .int tcp, .int tkd, .int tsd, .int tlm, .int tfu, .int ttb, .int trb, .int tgr])), (h1, .inl (cI, 64, .inl tK)), (h2, .inl (cI, 64, .inl tV)), (h3, .inl (cI, 64, .inl tO)), (h4, .inl (cI, 64, .inl tW))] out A) args s 0 0 A) 0 0 0 [(0, .ref h0), (1, .int x0)] [] [(h0, .inr (5, [.ref h1, .ref h2, .ref h3, .ref h4, .int tcp, .int tkd, .int tsd, .int tlm, .int tfu, .int ttb, .int trb, .int tgr])), (h1, .inl (cI, 64, .inl tK)), (h2, .inl (cI, 64, .inl tV)), (h3, .inl (cI, 64, .inl tO)), (h4, .inl (cI, 64, .inl tW))] := by
  unfold fX1_sizeAt at hf
  refine g_aload_n C0 dX1_sizeAt_0 rfl 0 rfl ?_
  refine g_iload_n C0 dX1_sizeAt_1 rfl 1 rfl ?_
  obtain ⟨r1, er1, hf⟩ := hl_bd hf
  try dsimp only at hf
  refine g_callVi C0 (ws' := [(h0, .inr (5, [.ref h1, .ref h2, .ref h3, .ref h4, .int tcp, .int tkd, .int tsd, .int tlm, .int tfu, .int ttb, .int trb, .int tgr])), (h1, .inl (cI, 64, .inl tK)), (h2, .inl (cI, 64, .inl tV)), (h3, .inl (cI, 64, .inl tO)), (h4, .inl (cI, 64, .inl tW))]) (mX5_isUsed l D cB cC cI cO  h0 h1 h2 h3 h4 tcp tkd tsd tlm tfu ttb trb tgr tK tV tO tW x0 r1 er1) hmX5_isUsed q_456 ⟨Nat.le_of_ble_eq_true rfl, Nat.le_of_ble_eq_true rfl⟩ ⟨Nat.le_of_ble_eq_true rfl, Nat.le_of_ble_eq_true rfl⟩ rfl rfl [0, 1, 2, 3, 4] rfl rfl rfl rfl rfl 0 rfl rfl rfl (Nat.le_of_ble_eq_true rfl) dX1_sizeAt_2 ?_
  refine g_if_ne C0 (tgt := 10) dX1_sizeAt_5 (by decide) (fun c2 => ?_) (fun c2 => ?_)
  · rw [if_neg c2] at hf
    refine g_iconst C0 (v := (1 : Int32)) dX1_sizeAt_10 (by decide) ?_
    refine g_istore_n C0 (lv' := [(2, .int (1 : Int32)), (0, .ref h0), (1, .int x0)]) dX1_sizeAt_11 rfl (by decide) rfl ?_
    refine g_aload_n C0 dX1_sizeAt_12 rfl 1 rfl ?_
    refine g_iload_n C0 dX1_sizeAt_13 rfl 2 rfl ?_
    refine g_iconst C0 (v := (1 : Int32)) dX1_sizeAt_14 (by decide) ?_
    refine g_iadd C0 dX1_sizeAt_15 ?_
    obtain ⟨r3, er3, hf⟩ := hl_bd hf
    try dsimp only at hf
    refine g_callVNi C0 (ws' := [(h0, .inr (5, [.ref h1, .ref h2, .ref h3, .ref h4, .int tcp, .int tkd, .int tsd, .int tlm, .int tfu, .int ttb, .int trb, .int tgr])), (h1, .inl (cI, 64, .inl tK)), (h2, .inl (cI, 64, .inl tV)), (h3, .inl (cI, 64, .inl tO)), (h4, .inl (cI, 64, .inl tW))]) (mX5_wrap l D cB cC cI cO  h0 h1 h2 h3 h4 tcp tkd tsd tlm tfu ttb trb tgr tK tV tO tW (x0 + (1 : Int32)) r3 er3) hmX5_wrap q_460 ⟨Nat.le_of_ble_eq_true rfl, Nat.le_of_ble_eq_true rfl⟩ ⟨Nat.le_of_ble_eq_true rfl, Nat.le_of_ble_eq_true rfl⟩ rfl rfl [0, 1, 2, 3, 4] rfl rfl rfl rfl rfl 0 rfl rfl rfl (Nat.le_of_ble_eq_true rfl) dX1_sizeAt_16 ?_
    refine g_istore_n C0 (lv' := [(3, .int r3), (2, .int (1 : Int32)), (0, .ref h0), (1, .int x0)]) dX1_sizeAt_19 rfl (by decide) rfl ?_
    refine g_lv [2, 3, 1, 0] (lv' := [(0, .ref h0), (1, .int x0), (2, .int (1 : Int32)), (3, .int r3)]) rfl ?_
    exact bX1_sizeAt_20 C0 h0 h1 h2 h3 h4 out tkd tsd tlm tfu ttb trb tgr tV tO tW  1000 tcp tK x0 (1 : Int32) r3 hf
  · rw [if_pos c2] at hf
    refine g_iconst C0 (v := (0 : Int32)) dX1_sizeAt_8 (by decide) ?_
    cases hf
    exact g_iret C0 rfl dX1_sizeAt_9 rfl rfl
theorem mX1_sizeAt (l : Launch) (D : va_G) (cB cC cI cO : ClassId)  (h0 h1 h2 h3 h4 : Nat) (tcp : Int32) (tkd : Int32) (tsd : Int32) (tlm : Int32) (tfu : Int32) (ttb : Int32) (trb : Int32) (tgr : Int32) (tK : Nat → Int32) (tV : Nat → Int32) (tO : Nat → Int32) (tW : Nat → Int32) (x0 : Int32) (out : Int32) (hf : fX1_sizeAt tcp tK x0 = some out) : ∀ sz, Met l yX1_sizeAt (ws_ yX1_sizeAt cX1_sizeAt 5 (some .int)) rmX1_sizeAt (va_Pc [.ref h0, .int x0] (hPre D (hTy cB cC cI cO) [(h0, .inr (5, [.ref h1, .ref h2, .ref h3, .ref h4, .int tcp, .int tkd, .int tsd, .int tlm, .int tfu, .int ttb, .int trb, .int tgr])), (h1, .inl (cI, 64, .inl tK)), (h2, .inl (cI, 64, .inl tV)), (h3, .inl (cI, 64, .inl tO)), (h4, .inl (cI, 64, .inl tW))] sz)) (hQi D [(h0, .inr (5, [.ref h1, .ref h2, .ref h3, .ref h4, .int tcp, .int tkd, .int tsd, .int tlm, .int tfu, .int ttb, .int trb, .int tgr])), (h1, .inl (cI, 64, .inl tK)), (h2, .inl (cI, 64, .inl tV)), (h3, .inl (cI, 64, .inl tO)), (h4, .inl (cI, 64, .inl tW))] out (va_A [(h0, .inr (5, [.ref h1, .ref h2, .ref h3, .ref h4, .int tcp, .int tkd, .int tsd, .int tlm, .int tfu, .int ttb, .int trb, .int tgr])), (h1, .inl (cI, 64, .inl tK)), (h2, .inl (cI, 64, .inl tV)), (h3, .inl (cI, 64, .inl tO)), (h4, .inl (cI, 64, .inl tW))] sz)) 0 0 (va_A [(h0, .inr (5, [.ref h1, .ref h2, .ref h3, .ref h4, .int tcp, .int tkd, .int tsd, .int tlm, .int tfu, .int ttb, .int trb, .int tgr])), (h1, .inl (cI, 64, .inl tK)), (h2, .inl (cI, 64, .inl tV)), (h3, .inl (cI, 64, .inl tO)), (h4, .inl (cI, 64, .inl tW))] sz) :=
  g_met (Qf := fun A => hQi D [(h0, .inr (5, [.ref h1, .ref h2, .ref h3, .ref h4, .int tcp, .int tkd, .int tsd, .int tlm, .int tfu, .int ttb, .int trb, .int tgr])), (h1, .inl (cI, 64, .inl tK)), (h2, .inl (cI, 64, .inl tV)), (h3, .inl (cI, 64, .inl tO)), (h4, .inl (cI, 64, .inl tW))] out A) (by decide +kernel) (Nat.le_of_ble_eq_true rfl) rfl (fun C0 => bX1_sizeAt C0 h0 h1 h2 h3 h4 out tcp tkd tsd tlm tfu ttb trb tgr tK tV tO tW x0 hf)
abbrev rmX1_largestAround : Room := { frames := 3, cells := 0, slots := 0, locals := 62 }
theorem hmX1_largestAround : hMS yX1_largestAround cX1_largestAround 5 (some .int) 1 := ⟨q_474, q_29, q_473, by decide, by decide, by decide +kernel⟩
theorem dX1_largestAround_0 : decode cX1_largestAround 0 = .ok (.iconst 0, 1) := by decide +kernel
theorem dX1_largestAround_1 : decode cX1_largestAround 1 = .ok (.istore_n 1, 1) := by decide +kernel
theorem dX1_largestAround_2 : decode cX1_largestAround 2 = .ok (.iload_n 1, 1) := by decide +kernel
theorem dX1_largestAround_3 : decode cX1_largestAround 3 = .ok (.aload_n 0, 1) := by decide +kernel
theorem dX1_largestAround_4 : decode cX1_largestAround 4 = .ok (.getfield 7, 3) := by decide +kernel
theorem dX1_largestAround_7 : decode cX1_largestAround 7 = .ok (.if_icmp .ge 17, 3) := by decide +kernel
theorem dX1_largestAround_10 : decode cX1_largestAround 10 = .ok (.aload_n 0, 1) := by decide +kernel
theorem dX1_largestAround_11 : decode cX1_largestAround 11 = .ok (.iload_n 1, 1) := by decide +kernel
theorem dX1_largestAround_12 : decode cX1_largestAround 12 = .ok (.invokevirtual 13, 3) := by decide +kernel
theorem dX1_largestAround_15 : decode cX1_largestAround 15 = .ok (.ifCond .eq 9, 3) := by decide +kernel
theorem dX1_largestAround_18 : decode cX1_largestAround 18 = .ok (.iinc 1 1, 3) := by decide +kernel
theorem dX1_largestAround_21 : decode cX1_largestAround 21 = .ok (.goto (-19), 3) := by decide +kernel
theorem dX1_largestAround_24 : decode cX1_largestAround 24 = .ok (.iconst 0, 1) := by decide +kernel
theorem dX1_largestAround_25 : decode cX1_largestAround 25 = .ok (.istore_n 2, 1) := by decide +kernel
theorem dX1_largestAround_26 : decode cX1_largestAround 26 = .ok (.iconst 0, 1) := by decide +kernel
theorem dX1_largestAround_27 : decode cX1_largestAround 27 = .ok (.istore_n 3, 1) := by decide +kernel
theorem dX1_largestAround_28 : decode cX1_largestAround 28 = .ok (.iconst 1, 1) := by decide +kernel
theorem dX1_largestAround_29 : decode cX1_largestAround 29 = .ok (.istore 4, 2) := by decide +kernel
theorem dX1_largestAround_31 : decode cX1_largestAround 31 = .ok (.iload 4, 2) := by decide +kernel
theorem dX1_largestAround_33 : decode cX1_largestAround 33 = .ok (.aload_n 0, 1) := by decide +kernel
theorem dX1_largestAround_34 : decode cX1_largestAround 34 = .ok (.getfield 7, 3) := by decide +kernel
theorem dX1_largestAround_37 : decode cX1_largestAround 37 = .ok (.if_icmp .gt 38, 3) := by decide +kernel
theorem dX1_largestAround_40 : decode cX1_largestAround 40 = .ok (.aload_n 0, 1) := by decide +kernel
theorem dX1_largestAround_41 : decode cX1_largestAround 41 = .ok (.aload_n 0, 1) := by decide +kernel
theorem dX1_largestAround_42 : decode cX1_largestAround 42 = .ok (.iload_n 1, 1) := by decide +kernel
theorem dX1_largestAround_43 : decode cX1_largestAround 43 = .ok (.iload 4, 2) := by decide +kernel
theorem dX1_largestAround_45 : decode cX1_largestAround 45 = .ok (.iadd, 1) := by decide +kernel
theorem dX1_largestAround_46 : decode cX1_largestAround 46 = .ok (.invokevirtual 17, 3) := by decide +kernel
theorem dX1_largestAround_49 : decode cX1_largestAround 49 = .ok (.invokevirtual 13, 3) := by decide +kernel
theorem dX1_largestAround_52 : decode cX1_largestAround 52 = .ok (.ifCond .eq 9, 3) := by decide +kernel
theorem dX1_largestAround_55 : decode cX1_largestAround 55 = .ok (.iload_n 3, 1) := by decide +kernel
theorem dX1_largestAround_56 : decode cX1_largestAround 56 = .ok (.iconst 1, 1) := by decide +kernel
theorem dX1_largestAround_57 : decode cX1_largestAround 57 = .ok (.iadd, 1) := by decide +kernel
theorem dX1_largestAround_58 : decode cX1_largestAround 58 = .ok (.goto 4, 3) := by decide +kernel
theorem dX1_largestAround_61 : decode cX1_largestAround 61 = .ok (.iconst 0, 1) := by decide +kernel
theorem dX1_largestAround_62 : decode cX1_largestAround 62 = .ok (.istore_n 3, 1) := by decide +kernel
theorem dX1_largestAround_63 : decode cX1_largestAround 63 = .ok (.iload_n 2, 1) := by decide +kernel
theorem dX1_largestAround_64 : decode cX1_largestAround 64 = .ok (.iload_n 3, 1) := by decide +kernel
theorem dX1_largestAround_65 : decode cX1_largestAround 65 = .ok (.invokestatic 21, 3) := by decide +kernel
theorem dX1_largestAround_68 : decode cX1_largestAround 68 = .ok (.istore_n 2, 1) := by decide +kernel
theorem dX1_largestAround_69 : decode cX1_largestAround 69 = .ok (.iinc 4 1, 3) := by decide +kernel
theorem dX1_largestAround_72 : decode cX1_largestAround 72 = .ok (.goto (-41), 3) := by decide +kernel
theorem dX1_largestAround_75 : decode cX1_largestAround 75 = .ok (.iload_n 2, 1) := by decide +kernel
theorem dX1_largestAround_76 : decode cX1_largestAround 76 = .ok (.ireturn, 1) := by decide +kernel
set_option maxHeartbeats 4000000 in
set_option maxRecDepth 100000 in
theorem bX1_largestAround_62 {p : Program} {l : Launch} {e : Env} {s : State} {m : MethodId} {args : Array Value} {below : List Frame} {meth : Method} {c : Code} {D : va_G} {cB cC cI cO : ClassId} {A : Nat → Prop} (C0 : gC RX1 cX1_largestAround 5 (some .int) p s m args meth c D (hTy cB cC cI cO) A) (h0 h1 h2 h3 h4 : Nat) (out : Int32) (tkd : Int32) (tsd : Int32) (tlm : Int32) (tfu : Int32) (ttb : Int32) (trb : Int32) (tgr : Int32) (tV : Nat → Int32) (tO : Nat → Int32) (tW : Nat → Int32) (rec31 : Int32 → (Nat → Int32) → Int32 → Int32 → Int32 → Int32 → Option (Int32)) (hrec31 : ∀ (tcp : Int32) (tK : Nat → Int32) (v1 : Int32) (v2 : Int32) (v3 : Int32) (v4 : Int32), rec31 tcp tK v1 v2 v3 v4 = some out → gG p l e rmX1_largestAround s m args below meth c D A 5 (MQ below (hQi D [(h0, .inr (5, [.ref h1, .ref h2, .ref h3, .ref h4, .int tcp, .int tkd, .int tsd, .int tlm, .int tfu, .int ttb, .int trb, .int tgr])), (h1, .inl (cI, 64, .inl tK)), (h2, .inl (cI, 64, .inl tV)), (h3, .inl (cI, 64, .inl tO)), (h4, .inl (cI, 64, .inl tW))] out A) args s 0 0 A) 0 0 31 [(0, .ref h0), (1, .int v1), (2, .int v2), (3, .int v3), (4, .int v4)] [] [(h0, .inr (5, [.ref h1, .ref h2, .ref h3, .ref h4, .int tcp, .int tkd, .int tsd, .int tlm, .int tfu, .int ttb, .int trb, .int tgr])), (h1, .inl (cI, 64, .inl tK)), (h2, .inl (cI, 64, .inl tV)), (h3, .inl (cI, 64, .inl tO)), (h4, .inl (cI, 64, .inl tW))]) : ∀ (tcp : Int32) (tK : Nat → Int32) (v1 : Int32) (v2 : Int32) (v4 : Int32) (k0 : Int32), fX1_largestAround_62 rec31 tcp tK v1 v2 v4 k0 = some out → gG p l e rmX1_largestAround s m args below meth c D A 5 (MQ below (hQi D [(h0, .inr (5, [.ref h1, .ref h2, .ref h3, .ref h4, .int tcp, .int tkd, .int tsd, .int tlm, .int tfu, .int ttb, .int trb, .int tgr])), (h1, .inl (cI, 64, .inl tK)), (h2, .inl (cI, 64, .inl tV)), (h3, .inl (cI, 64, .inl tO)), (h4, .inl (cI, 64, .inl tW))] out A) args s 0 0 A) 0 0 62 [(0, .ref h0), (1, .int v1), (2, .int v2), (4, .int v4)] [.int k0] [(h0, .inr (5, [.ref h1, .ref h2, .ref h3, .ref h4, .int tcp, .int tkd, .int tsd, .int tlm, .int tfu, .int ttb, .int trb, .int tgr])), (h1, .inl (cI, 64, .inl tK)), (h2, .inl (cI, 64, .inl tV)), (h3, .inl (cI, 64, .inl tO)), (h4, .inl (cI, 64, .inl tW))] := by
  intro tcp tK v1 v2 v4 k0 hf
  unfold fX1_largestAround_62 at hf
  refine g_istore_n C0 (lv' := [(3, .int k0), (0, .ref h0), (1, .int v1), (2, .int v2), (4, .int v4)]) dX1_largestAround_62 rfl (by decide) rfl ?_
  refine g_iload_n C0 dX1_largestAround_63 rfl 3 rfl ?_
  refine g_iload_n C0 dX1_largestAround_64 rfl 0 rfl ?_
  refine g_mmax C0 q_475 q_476 q_22 q_477 (Nat.le_of_ble_eq_true rfl) ⟨Nat.le_of_ble_eq_true rfl, Nat.le_of_ble_eq_true rfl⟩ (Nat.le_of_ble_eq_true rfl) dX1_largestAround_65 ?_
  refine g_istore_n C0 (lv' := [(2, .int (if v2 < k0 then k0 else v2)), (3, .int k0), (0, .ref h0), (1, .int v1), (4, .int v4)]) dX1_largestAround_68 rfl (by decide) rfl ?_
  refine g_iinc C0 (lv' := [(4, .int (v4 + (1 : Int32))), (2, .int (if v2 < k0 then k0 else v2)), (3, .int k0), (0, .ref h0), (1, .int v1)]) dX1_largestAround_69 4 rfl rfl (by decide) rfl ?_
  refine g_goto C0 (tgt := 31) dX1_largestAround_72 (by decide) ?_
  refine g_lv [3, 4, 1, 2, 0] (lv' := [(0, .ref h0), (1, .int v1), (2, .int (if v2 < k0 then k0 else v2)), (3, .int k0), (4, .int (v4 + (1 : Int32)))]) rfl ?_
  exact hrec31 tcp tK v1 (if v2 < k0 then k0 else v2) k0 (v4 + (1 : Int32)) hf
set_option maxHeartbeats 4000000 in
set_option maxRecDepth 100000 in
theorem bX1_largestAround_31 {p : Program} {l : Launch} {e : Env} {s : State} {m : MethodId} {args : Array Value} {below : List Frame} {meth : Method} {c : Code} {D : va_G} {cB cC cI cO : ClassId} {A : Nat → Prop} (C0 : gC RX1 cX1_largestAround 5 (some .int) p s m args meth c D (hTy cB cC cI cO) A) (h0 h1 h2 h3 h4 : Nat) (out : Int32) (tkd : Int32) (tsd : Int32) (tlm : Int32) (tfu : Int32) (ttb : Int32) (trb : Int32) (tgr : Int32) (tV : Nat → Int32) (tO : Nat → Int32) (tW : Nat → Int32)   : ∀ (n : Nat) (tcp : Int32) (tK : Nat → Int32) (v1 : Int32) (v2 : Int32) (v3 : Int32) (v4 : Int32), fX1_largestAround_31 n tcp tK v1 v2 v3 v4 = some out → gG p l e rmX1_largestAround s m args below meth c D A 5 (MQ below (hQi D [(h0, .inr (5, [.ref h1, .ref h2, .ref h3, .ref h4, .int tcp, .int tkd, .int tsd, .int tlm, .int tfu, .int ttb, .int trb, .int tgr])), (h1, .inl (cI, 64, .inl tK)), (h2, .inl (cI, 64, .inl tV)), (h3, .inl (cI, 64, .inl tO)), (h4, .inl (cI, 64, .inl tW))] out A) args s 0 0 A) 0 0 31 [(0, .ref h0), (1, .int v1), (2, .int v2), (3, .int v3), (4, .int v4)] [] [(h0, .inr (5, [.ref h1, .ref h2, .ref h3, .ref h4, .int tcp, .int tkd, .int tsd, .int tlm, .int tfu, .int ttb, .int trb, .int tgr])), (h1, .inl (cI, 64, .inl tK)), (h2, .inl (cI, 64, .inl tV)), (h3, .inl (cI, 64, .inl tO)), (h4, .inl (cI, 64, .inl tW))] := by
  intro n
  induction n with
  | zero => intro tcp tK v1 v2 v3 v4 hf; rw [fX1_largestAround_31] at hf; cases hf
  | succ n ih =>
    intro tcp tK v1 v2 v3 v4 hf
    rw [fX1_largestAround_31] at hf
    refine g_iload C0 dX1_largestAround_31 4 rfl ?_
    refine g_aload_n C0 dX1_largestAround_33 rfl 0 rfl ?_
    refine g_getN C0 hinX5 0 rfl rfl 4 (by decide) q_65 rfl dX1_largestAround_34 ?_
    refine g_icmp_gt C0 (tgt := 75) dX1_largestAround_37 (by decide) (fun c4 => ?_) (fun c4 => ?_)
    · rw [if_pos c4] at hf
      refine g_iload_n C0 dX1_largestAround_75 rfl 2 rfl ?_
      cases hf
      exact g_iret C0 rfl dX1_largestAround_76 rfl rfl
    · rw [if_neg c4] at hf
      refine g_aload_n C0 dX1_largestAround_40 rfl 0 rfl ?_
      refine g_aload_n C0 dX1_largestAround_41 rfl 0 rfl ?_
      refine g_iload_n C0 dX1_largestAround_42 rfl 1 rfl ?_
      refine g_iload C0 dX1_largestAround_43 4 rfl ?_
      refine g_iadd C0 dX1_largestAround_45 ?_
      obtain ⟨r5, er5, hf⟩ := hl_bd hf
      try dsimp only at hf
      refine g_callVNi C0 (ws' := [(h0, .inr (5, [.ref h1, .ref h2, .ref h3, .ref h4, .int tcp, .int tkd, .int tsd, .int tlm, .int tfu, .int ttb, .int trb, .int tgr])), (h1, .inl (cI, 64, .inl tK)), (h2, .inl (cI, 64, .inl tV)), (h3, .inl (cI, 64, .inl tO)), (h4, .inl (cI, 64, .inl tW))]) (mX5_wrap l D cB cC cI cO  h0 h1 h2 h3 h4 tcp tkd tsd tlm tfu ttb trb tgr tK tV tO tW (v1 + v4) r5 er5) hmX5_wrap q_460 ⟨Nat.le_of_ble_eq_true rfl, Nat.le_of_ble_eq_true rfl⟩ ⟨Nat.le_of_ble_eq_true rfl, Nat.le_of_ble_eq_true rfl⟩ rfl rfl [0, 1, 2, 3, 4] rfl rfl rfl rfl rfl 0 rfl rfl rfl (Nat.le_of_ble_eq_true rfl) dX1_largestAround_46 ?_
      obtain ⟨r6, er6, hf⟩ := hl_bd hf
      try dsimp only at hf
      refine g_callVi C0 (ws' := [(h0, .inr (5, [.ref h1, .ref h2, .ref h3, .ref h4, .int tcp, .int tkd, .int tsd, .int tlm, .int tfu, .int ttb, .int trb, .int tgr])), (h1, .inl (cI, 64, .inl tK)), (h2, .inl (cI, 64, .inl tV)), (h3, .inl (cI, 64, .inl tO)), (h4, .inl (cI, 64, .inl tW))]) (mX5_isUsed l D cB cC cI cO  h0 h1 h2 h3 h4 tcp tkd tsd tlm tfu ttb trb tgr tK tV tO tW r5 r6 er6) hmX5_isUsed q_456 ⟨Nat.le_of_ble_eq_true rfl, Nat.le_of_ble_eq_true rfl⟩ ⟨Nat.le_of_ble_eq_true rfl, Nat.le_of_ble_eq_true rfl⟩ rfl rfl [0, 1, 2, 3, 4] rfl rfl rfl rfl rfl 0 rfl rfl rfl (Nat.le_of_ble_eq_true rfl) dX1_largestAround_49 ?_
      refine g_if_eq C0 (tgt := 61) dX1_largestAround_52 (by decide) (fun c7 => ?_) (fun c7 => ?_)
      · rw [if_pos c7] at hf
        refine g_iconst C0 (v := (0 : Int32)) dX1_largestAround_61 (by decide) ?_
        refine g_lv [0, 1, 2, 4] (lv' := [(0, .ref h0), (1, .int v1), (2, .int v2), (4, .int v4)]) rfl ?_
        exact bX1_largestAround_62 C0 h0 h1 h2 h3 h4 out tkd tsd tlm tfu ttb trb tgr tV tO tW (fX1_largestAround_31 n) ih  tcp tK v1 v2 v4 (0 : Int32) hf
      · rw [if_neg c7] at hf
        refine g_iload_n C0 dX1_largestAround_55 rfl 3 rfl ?_
        refine g_iconst C0 (v := (1 : Int32)) dX1_largestAround_56 (by decide) ?_
        refine g_iadd C0 dX1_largestAround_57 ?_
        refine g_goto C0 (tgt := 62) dX1_largestAround_58 (by decide) ?_
        refine g_lv [0, 1, 2, 4] (lv' := [(0, .ref h0), (1, .int v1), (2, .int v2), (4, .int v4)]) rfl ?_
        exact bX1_largestAround_62 C0 h0 h1 h2 h3 h4 out tkd tsd tlm tfu ttb trb tgr tV tO tW (fX1_largestAround_31 n) ih  tcp tK v1 v2 v4 (v3 + (1 : Int32)) hf
set_option maxHeartbeats 4000000 in
set_option maxRecDepth 100000 in
theorem bX1_largestAround_24 {p : Program} {l : Launch} {e : Env} {s : State} {m : MethodId} {args : Array Value} {below : List Frame} {meth : Method} {c : Code} {D : va_G} {cB cC cI cO : ClassId} {A : Nat → Prop} (C0 : gC RX1 cX1_largestAround 5 (some .int) p s m args meth c D (hTy cB cC cI cO) A) (h0 h1 h2 h3 h4 : Nat) (out : Int32) (tkd : Int32) (tsd : Int32) (tlm : Int32) (tfu : Int32) (ttb : Int32) (trb : Int32) (tgr : Int32) (tV : Nat → Int32) (tO : Nat → Int32) (tW : Nat → Int32)   : ∀ (tcp : Int32) (tK : Nat → Int32) (v1 : Int32), fX1_largestAround_24 tcp tK v1 = some out → gG p l e rmX1_largestAround s m args below meth c D A 5 (MQ below (hQi D [(h0, .inr (5, [.ref h1, .ref h2, .ref h3, .ref h4, .int tcp, .int tkd, .int tsd, .int tlm, .int tfu, .int ttb, .int trb, .int tgr])), (h1, .inl (cI, 64, .inl tK)), (h2, .inl (cI, 64, .inl tV)), (h3, .inl (cI, 64, .inl tO)), (h4, .inl (cI, 64, .inl tW))] out A) args s 0 0 A) 0 0 24 [(0, .ref h0), (1, .int v1)] [] [(h0, .inr (5, [.ref h1, .ref h2, .ref h3, .ref h4, .int tcp, .int tkd, .int tsd, .int tlm, .int tfu, .int ttb, .int trb, .int tgr])), (h1, .inl (cI, 64, .inl tK)), (h2, .inl (cI, 64, .inl tV)), (h3, .inl (cI, 64, .inl tO)), (h4, .inl (cI, 64, .inl tW))] := by
  intro tcp tK v1 hf
  unfold fX1_largestAround_24 at hf
  refine g_iconst C0 (v := (0 : Int32)) dX1_largestAround_24 (by decide) ?_
  refine g_istore_n C0 (lv' := [(2, .int (0 : Int32)), (0, .ref h0), (1, .int v1)]) dX1_largestAround_25 rfl (by decide) rfl ?_
  refine g_iconst C0 (v := (0 : Int32)) dX1_largestAround_26 (by decide) ?_
  refine g_istore_n C0 (lv' := [(3, .int (0 : Int32)), (2, .int (0 : Int32)), (0, .ref h0), (1, .int v1)]) dX1_largestAround_27 rfl (by decide) rfl ?_
  refine g_iconst C0 (v := (1 : Int32)) dX1_largestAround_28 (by decide) ?_
  refine g_istore C0 (lv' := [(4, .int (1 : Int32)), (3, .int (0 : Int32)), (2, .int (0 : Int32)), (0, .ref h0), (1, .int v1)]) dX1_largestAround_29 (by decide) rfl ?_
  refine g_lv [3, 4, 2, 1, 0] (lv' := [(0, .ref h0), (1, .int v1), (2, .int (0 : Int32)), (3, .int (0 : Int32)), (4, .int (1 : Int32))]) rfl ?_
  exact bX1_largestAround_31 C0 h0 h1 h2 h3 h4 out tkd tsd tlm tfu ttb trb tgr tV tO tW  1000 tcp tK v1 (0 : Int32) (0 : Int32) (1 : Int32) hf
set_option maxHeartbeats 4000000 in
set_option maxRecDepth 100000 in
theorem bX1_largestAround_2 {p : Program} {l : Launch} {e : Env} {s : State} {m : MethodId} {args : Array Value} {below : List Frame} {meth : Method} {c : Code} {D : va_G} {cB cC cI cO : ClassId} {A : Nat → Prop} (C0 : gC RX1 cX1_largestAround 5 (some .int) p s m args meth c D (hTy cB cC cI cO) A) (h0 h1 h2 h3 h4 : Nat) (out : Int32) (tkd : Int32) (tsd : Int32) (tlm : Int32) (tfu : Int32) (ttb : Int32) (trb : Int32) (tgr : Int32) (tV : Nat → Int32) (tO : Nat → Int32) (tW : Nat → Int32)   : ∀ (n : Nat) (tcp : Int32) (tK : Nat → Int32) (v1 : Int32), fX1_largestAround_2 n tcp tK v1 = some out → gG p l e rmX1_largestAround s m args below meth c D A 5 (MQ below (hQi D [(h0, .inr (5, [.ref h1, .ref h2, .ref h3, .ref h4, .int tcp, .int tkd, .int tsd, .int tlm, .int tfu, .int ttb, .int trb, .int tgr])), (h1, .inl (cI, 64, .inl tK)), (h2, .inl (cI, 64, .inl tV)), (h3, .inl (cI, 64, .inl tO)), (h4, .inl (cI, 64, .inl tW))] out A) args s 0 0 A) 0 0 2 [(0, .ref h0), (1, .int v1)] [] [(h0, .inr (5, [.ref h1, .ref h2, .ref h3, .ref h4, .int tcp, .int tkd, .int tsd, .int tlm, .int tfu, .int ttb, .int trb, .int tgr])), (h1, .inl (cI, 64, .inl tK)), (h2, .inl (cI, 64, .inl tV)), (h3, .inl (cI, 64, .inl tO)), (h4, .inl (cI, 64, .inl tW))] := by
  intro n
  induction n with
  | zero => intro tcp tK v1 hf; rw [fX1_largestAround_2] at hf; cases hf
  | succ n ih =>
    intro tcp tK v1 hf
    rw [fX1_largestAround_2] at hf
    refine g_iload_n C0 dX1_largestAround_2 rfl 1 rfl ?_
    refine g_aload_n C0 dX1_largestAround_3 rfl 0 rfl ?_
    refine g_getN C0 hinX5 0 rfl rfl 4 (by decide) q_65 rfl dX1_largestAround_4 ?_
    refine g_icmp_ge C0 (tgt := 24) dX1_largestAround_7 (by decide) (fun c1 => ?_) (fun c1 => ?_)
    · rw [if_pos c1] at hf
      refine g_lv [0, 1] (lv' := [(0, .ref h0), (1, .int v1)]) rfl ?_
      exact bX1_largestAround_24 C0 h0 h1 h2 h3 h4 out tkd tsd tlm tfu ttb trb tgr tV tO tW  tcp tK v1 hf
    · rw [if_neg c1] at hf
      refine g_aload_n C0 dX1_largestAround_10 rfl 0 rfl ?_
      refine g_iload_n C0 dX1_largestAround_11 rfl 1 rfl ?_
      obtain ⟨r2, er2, hf⟩ := hl_bd hf
      try dsimp only at hf
      refine g_callVi C0 (ws' := [(h0, .inr (5, [.ref h1, .ref h2, .ref h3, .ref h4, .int tcp, .int tkd, .int tsd, .int tlm, .int tfu, .int ttb, .int trb, .int tgr])), (h1, .inl (cI, 64, .inl tK)), (h2, .inl (cI, 64, .inl tV)), (h3, .inl (cI, 64, .inl tO)), (h4, .inl (cI, 64, .inl tW))]) (mX5_isUsed l D cB cC cI cO  h0 h1 h2 h3 h4 tcp tkd tsd tlm tfu ttb trb tgr tK tV tO tW v1 r2 er2) hmX5_isUsed q_456 ⟨Nat.le_of_ble_eq_true rfl, Nat.le_of_ble_eq_true rfl⟩ ⟨Nat.le_of_ble_eq_true rfl, Nat.le_of_ble_eq_true rfl⟩ rfl rfl [0, 1, 2, 3, 4] rfl rfl rfl rfl rfl 0 rfl rfl rfl (Nat.le_of_ble_eq_true rfl) dX1_largestAround_12 ?_
      refine g_if_eq C0 (tgt := 24) dX1_largestAround_15 (by decide) (fun c3 => ?_) (fun c3 => ?_)
      · rw [if_pos c3] at hf
        refine g_lv [0, 1] (lv' := [(0, .ref h0), (1, .int v1)]) rfl ?_
        exact bX1_largestAround_24 C0 h0 h1 h2 h3 h4 out tkd tsd tlm tfu ttb trb tgr tV tO tW  tcp tK v1 hf
      · rw [if_neg c3] at hf
        refine g_iinc C0 (lv' := [(1, .int (v1 + (1 : Int32))), (0, .ref h0)]) dX1_largestAround_18 1 rfl rfl (by decide) rfl ?_
        refine g_goto C0 (tgt := 2) dX1_largestAround_21 (by decide) ?_
        refine g_lv [1, 0] (lv' := [(0, .ref h0), (1, .int (v1 + (1 : Int32)))]) rfl ?_
        exact ih tcp tK (v1 + (1 : Int32)) hf
set_option maxHeartbeats 4000000 in
set_option maxRecDepth 100000 in
theorem bX1_largestAround {p : Program} {l : Launch} {e : Env} {s : State} {m : MethodId} {args : Array Value} {below : List Frame} {meth : Method} {c : Code} {D : va_G} {cB cC cI cO : ClassId} {A : Nat → Prop} (C0 : gC RX1 cX1_largestAround 5 (some .int) p s m args meth c D (hTy cB cC cI cO) A) (h0 h1 h2 h3 h4 : Nat) (out : Int32) (tcp : Int32) (tkd : Int32) (tsd : Int32) (tlm : Int32) (tfu : Int32) (ttb : Int32) (trb : Int32) (tgr : Int32) (tK : Nat → Int32) (tV : Nat → Int32) (tO : Nat → Int32) (tW : Nat → Int32)  (hf : fX1_largestAround tcp tK = some out) : gG p l e rmX1_largestAround s m args below meth c D A 5 (MQ below (hQi D [(h0, .inr (5, [.ref h1, .ref h2, .ref h3, .ref h4, .int tcp, .int tkd, .int tsd, .int tlm, .int tfu, .int ttb, .int trb, .int tgr])), (h1, .inl (cI, 64, .inl tK)), (h2, .inl (cI, 64, .inl tV)), (h3, .inl (cI, 64, .inl tO)), (h4, .inl (cI, 64, .inl tW))] out A) args s 0 0 A) 0 0 0 [(0, .ref h0)] [] [(h0, .inr (5, [.ref h1, .ref h2, .ref h3, .ref h4, .int tcp, .int tkd, .int tsd, .int tlm, .int tfu, .int ttb, .int trb, .int tgr])), (h1, .inl (cI, 64, .inl tK)), (h2, .inl (cI, 64, .inl tV)), (h3, .inl (cI, 64, .inl tO)), (h4, .inl (cI, 64, .inl tW))] := by
  unfold fX1_largestAround at hf
  refine g_iconst C0 (v := (0 : Int32)) dX1_largestAround_0 (by decide) ?_
  refine g_istore_n C0 (lv' := [(1, .int (0 : Int32)), (0, .ref h0)]) dX1_largestAround_1 rfl (by decide) rfl ?_
  refine g_lv [1, 0] (lv' := [(0, .ref h0), (1, .int (0 : Int32))]) rfl ?_
  exact bX1_largestAround_2 C0 h0 h1 h2 h3 h4 out tkd tsd tlm tfu ttb trb tgr tV tO tW  1000 tcp tK (0 : Int32) hf
theorem mX1_largestAround (l : Launch) (D : va_G) (cB cC cI cO : ClassId)  (h0 h1 h2 h3 h4 : Nat) (tcp : Int32) (tkd : Int32) (tsd : Int32) (tlm : Int32) (tfu : Int32) (ttb : Int32) (trb : Int32) (tgr : Int32) (tK : Nat → Int32) (tV : Nat → Int32) (tO : Nat → Int32) (tW : Nat → Int32)  (out : Int32) (hf : fX1_largestAround tcp tK = some out) : ∀ sz, Met l yX1_largestAround (ws_ yX1_largestAround cX1_largestAround 5 (some .int)) rmX1_largestAround (va_Pc [.ref h0] (hPre D (hTy cB cC cI cO) [(h0, .inr (5, [.ref h1, .ref h2, .ref h3, .ref h4, .int tcp, .int tkd, .int tsd, .int tlm, .int tfu, .int ttb, .int trb, .int tgr])), (h1, .inl (cI, 64, .inl tK)), (h2, .inl (cI, 64, .inl tV)), (h3, .inl (cI, 64, .inl tO)), (h4, .inl (cI, 64, .inl tW))] sz)) (hQi D [(h0, .inr (5, [.ref h1, .ref h2, .ref h3, .ref h4, .int tcp, .int tkd, .int tsd, .int tlm, .int tfu, .int ttb, .int trb, .int tgr])), (h1, .inl (cI, 64, .inl tK)), (h2, .inl (cI, 64, .inl tV)), (h3, .inl (cI, 64, .inl tO)), (h4, .inl (cI, 64, .inl tW))] out (va_A [(h0, .inr (5, [.ref h1, .ref h2, .ref h3, .ref h4, .int tcp, .int tkd, .int tsd, .int tlm, .int tfu, .int ttb, .int trb, .int tgr])), (h1, .inl (cI, 64, .inl tK)), (h2, .inl (cI, 64, .inl tV)), (h3, .inl (cI, 64, .inl tO)), (h4, .inl (cI, 64, .inl tW))] sz)) 0 0 (va_A [(h0, .inr (5, [.ref h1, .ref h2, .ref h3, .ref h4, .int tcp, .int tkd, .int tsd, .int tlm, .int tfu, .int ttb, .int trb, .int tgr])), (h1, .inl (cI, 64, .inl tK)), (h2, .inl (cI, 64, .inl tV)), (h3, .inl (cI, 64, .inl tO)), (h4, .inl (cI, 64, .inl tW))] sz) :=
  g_met (Qf := fun A => hQi D [(h0, .inr (5, [.ref h1, .ref h2, .ref h3, .ref h4, .int tcp, .int tkd, .int tsd, .int tlm, .int tfu, .int ttb, .int trb, .int tgr])), (h1, .inl (cI, 64, .inl tK)), (h2, .inl (cI, 64, .inl tV)), (h3, .inl (cI, 64, .inl tO)), (h4, .inl (cI, 64, .inl tW))] out A) (by decide +kernel) (Nat.le_of_ble_eq_true rfl) rfl (fun C0 => bX1_largestAround C0 h0 h1 h2 h3 h4 out tcp tkd tsd tlm tfu ttb trb tgr tK tV tO tW  hf)
abbrev rmX1_usedBefore : Room := { frames := 3, cells := 0, slots := 0, locals := 62 }
theorem hmX1_usedBefore : hMS yX1_usedBefore cX1_usedBefore 5 (some .int) 3 := ⟨q_487, q_29, q_486, by decide, by decide, by decide +kernel⟩
theorem dX1_usedBefore_0 : decode cX1_usedBefore 0 = .ok (.iconst 0, 1) := by decide +kernel
theorem dX1_usedBefore_1 : decode cX1_usedBefore 1 = .ok (.istore_n 3, 1) := by decide +kernel
theorem dX1_usedBefore_2 : decode cX1_usedBefore 2 = .ok (.iload_n 1, 1) := by decide +kernel
theorem dX1_usedBefore_3 : decode cX1_usedBefore 3 = .ok (.iconst 1, 1) := by decide +kernel
theorem dX1_usedBefore_4 : decode cX1_usedBefore 4 = .ok (.isub, 1) := by decide +kernel
theorem dX1_usedBefore_5 : decode cX1_usedBefore 5 = .ok (.istore 4, 2) := by decide +kernel
theorem dX1_usedBefore_7 : decode cX1_usedBefore 7 = .ok (.iload 4, 2) := by decide +kernel
theorem dX1_usedBefore_9 : decode cX1_usedBefore 9 = .ok (.iload_n 2, 1) := by decide +kernel
theorem dX1_usedBefore_10 : decode cX1_usedBefore 10 = .ok (.if_icmp .lt 21, 3) := by decide +kernel
theorem dX1_usedBefore_13 : decode cX1_usedBefore 13 = .ok (.aload_n 0, 1) := by decide +kernel
theorem dX1_usedBefore_14 : decode cX1_usedBefore 14 = .ok (.iload 4, 2) := by decide +kernel
theorem dX1_usedBefore_16 : decode cX1_usedBefore 16 = .ok (.invokevirtual 13, 3) := by decide +kernel
theorem dX1_usedBefore_19 : decode cX1_usedBefore 19 = .ok (.ifCond .eq 12, 3) := by decide +kernel
theorem dX1_usedBefore_22 : decode cX1_usedBefore 22 = .ok (.iinc 3 1, 3) := by decide +kernel
theorem dX1_usedBefore_25 : decode cX1_usedBefore 25 = .ok (.iinc 4 (-1), 3) := by decide +kernel
theorem dX1_usedBefore_28 : decode cX1_usedBefore 28 = .ok (.goto (-21), 3) := by decide +kernel
theorem dX1_usedBefore_31 : decode cX1_usedBefore 31 = .ok (.iload_n 3, 1) := by decide +kernel
theorem dX1_usedBefore_32 : decode cX1_usedBefore 32 = .ok (.ireturn, 1) := by decide +kernel
set_option maxHeartbeats 4000000 in
set_option maxRecDepth 100000 in
theorem bX1_usedBefore_7 {p : Program} {l : Launch} {e : Env} {s : State} {m : MethodId} {args : Array Value} {below : List Frame} {meth : Method} {c : Code} {D : va_G} {cB cC cI cO : ClassId} {A : Nat → Prop} (C0 : gC RX1 cX1_usedBefore 5 (some .int) p s m args meth c D (hTy cB cC cI cO) A) (h0 h1 h2 h3 h4 : Nat) (out : Int32) (tcp : Int32) (tkd : Int32) (tsd : Int32) (tlm : Int32) (tfu : Int32) (ttb : Int32) (trb : Int32) (tgr : Int32) (tV : Nat → Int32) (tO : Nat → Int32) (tW : Nat → Int32)   : ∀ (n : Nat) (tK : Nat → Int32) (v2 : Int32) (v3 : Int32) (v4 : Int32), fX1_usedBefore_7 n tK v2 v3 v4 = some out → gG p l e rmX1_usedBefore s m args below meth c D A 5 (MQ below (hQi D [(h0, .inr (5, [.ref h1, .ref h2, .ref h3, .ref h4, .int tcp, .int tkd, .int tsd, .int tlm, .int tfu, .int ttb, .int trb, .int tgr])), (h1, .inl (cI, 64, .inl tK)), (h2, .inl (cI, 64, .inl tV)), (h3, .inl (cI, 64, .inl tO)), (h4, .inl (cI, 64, .inl tW))] out A) args s 0 0 A) 0 0 7 [(0, .ref h0), (2, .int v2), (3, .int v3), (4, .int v4)] [] [(h0, .inr (5, [.ref h1, .ref h2, .ref h3, .ref h4, .int tcp, .int tkd, .int tsd, .int tlm, .int tfu, .int ttb, .int trb, .int tgr])), (h1, .inl (cI, 64, .inl tK)), (h2, .inl (cI, 64, .inl tV)), (h3, .inl (cI, 64, .inl tO)), (h4, .inl (cI, 64, .inl tW))] := by
  intro n
  induction n with
  | zero => intro tK v2 v3 v4 hf; rw [fX1_usedBefore_7] at hf; cases hf
  | succ n ih =>
    intro tK v2 v3 v4 hf
    rw [fX1_usedBefore_7] at hf
    refine g_iload C0 dX1_usedBefore_7 3 rfl ?_
    refine g_iload_n C0 dX1_usedBefore_9 rfl 1 rfl ?_
    refine g_icmp_lt C0 (tgt := 31) dX1_usedBefore_10 (by decide) (fun c1 => ?_) (fun c1 => ?_)
    · rw [if_pos c1] at hf
      refine g_iload_n C0 dX1_usedBefore_31 rfl 2 rfl ?_
      cases hf
      exact g_iret C0 rfl dX1_usedBefore_32 rfl rfl
    · rw [if_neg c1] at hf
      refine g_aload_n C0 dX1_usedBefore_13 rfl 0 rfl ?_
      refine g_iload C0 dX1_usedBefore_14 3 rfl ?_
      obtain ⟨r2, er2, hf⟩ := hl_bd hf
      try dsimp only at hf
      refine g_callVi C0 (ws' := [(h0, .inr (5, [.ref h1, .ref h2, .ref h3, .ref h4, .int tcp, .int tkd, .int tsd, .int tlm, .int tfu, .int ttb, .int trb, .int tgr])), (h1, .inl (cI, 64, .inl tK)), (h2, .inl (cI, 64, .inl tV)), (h3, .inl (cI, 64, .inl tO)), (h4, .inl (cI, 64, .inl tW))]) (mX5_isUsed l D cB cC cI cO  h0 h1 h2 h3 h4 tcp tkd tsd tlm tfu ttb trb tgr tK tV tO tW v4 r2 er2) hmX5_isUsed q_456 ⟨Nat.le_of_ble_eq_true rfl, Nat.le_of_ble_eq_true rfl⟩ ⟨Nat.le_of_ble_eq_true rfl, Nat.le_of_ble_eq_true rfl⟩ rfl rfl [0, 1, 2, 3, 4] rfl rfl rfl rfl rfl 0 rfl rfl rfl (Nat.le_of_ble_eq_true rfl) dX1_usedBefore_16 ?_
      refine g_if_eq C0 (tgt := 31) dX1_usedBefore_19 (by decide) (fun c3 => ?_) (fun c3 => ?_)
      · rw [if_pos c3] at hf
        refine g_iload_n C0 dX1_usedBefore_31 rfl 2 rfl ?_
        cases hf
        exact g_iret C0 rfl dX1_usedBefore_32 rfl rfl
      · rw [if_neg c3] at hf
        refine g_iinc C0 (lv' := [(3, .int (v3 + (1 : Int32))), (0, .ref h0), (2, .int v2), (4, .int v4)]) dX1_usedBefore_22 2 rfl rfl (by decide) rfl ?_
        refine g_iinc C0 (lv' := [(4, .int (v4 + (-1 : Int32))), (3, .int (v3 + (1 : Int32))), (0, .ref h0), (2, .int v2)]) dX1_usedBefore_25 3 rfl rfl (by decide) rfl ?_
        refine g_goto C0 (tgt := 7) dX1_usedBefore_28 (by decide) ?_
        refine g_lv [2, 3, 1, 0] (lv' := [(0, .ref h0), (2, .int v2), (3, .int (v3 + (1 : Int32))), (4, .int (v4 + (-1 : Int32)))]) rfl ?_
        exact ih tK v2 (v3 + (1 : Int32)) (v4 + (-1 : Int32)) hf
set_option maxHeartbeats 4000000 in
set_option maxRecDepth 100000 in
theorem bX1_usedBefore {p : Program} {l : Launch} {e : Env} {s : State} {m : MethodId} {args : Array Value} {below : List Frame} {meth : Method} {c : Code} {D : va_G} {cB cC cI cO : ClassId} {A : Nat → Prop} (C0 : gC RX1 cX1_usedBefore 5 (some .int) p s m args meth c D (hTy cB cC cI cO) A) (h0 h1 h2 h3 h4 : Nat) (out : Int32) (tcp : Int32) (tkd : Int32) (tsd : Int32) (tlm : Int32) (tfu : Int32) (ttb : Int32) (trb : Int32) (tgr : Int32) (tK : Nat → Int32) (tV : Nat → Int32) (tO : Nat → Int32) (tW : Nat → Int32) (x0 : Int32) (x1 : Int32) (hf : fX1_usedBefore tK x0 x1 = some out) : gG p l e rmX1_usedBefore s m args below meth c D A 5 (MQ below (hQi D [(h0, .inr (5, [.ref h1, .ref h2, .ref h3, .ref h4, .int tcp, .int tkd, .int tsd, .int tlm, .int tfu, .int ttb, .int trb, .int tgr])), (h1, .inl (cI, 64, .inl tK)), (h2, .inl (cI, 64, .inl tV)), (h3, .inl (cI, 64, .inl tO)), (h4, .inl (cI, 64, .inl tW))] out A) args s 0 0 A) 0 0 0 [(0, .ref h0), (1, .int x0), (2, .int x1)] [] [(h0, .inr (5, [.ref h1, .ref h2, .ref h3, .ref h4, .int tcp, .int tkd, .int tsd, .int tlm, .int tfu, .int ttb, .int trb, .int tgr])), (h1, .inl (cI, 64, .inl tK)), (h2, .inl (cI, 64, .inl tV)), (h3, .inl (cI, 64, .inl tO)), (h4, .inl (cI, 64, .inl tW))] := by
  unfold fX1_usedBefore at hf
  refine g_iconst C0 (v := (0 : Int32)) dX1_usedBefore_0 (by decide) ?_
  refine g_istore_n C0 (lv' := [(3, .int (0 : Int32)), (0, .ref h0), (1, .int x0), (2, .int x1)]) dX1_usedBefore_1 rfl (by decide) rfl ?_
  refine g_iload_n C0 dX1_usedBefore_2 rfl 2 rfl ?_
  refine g_iconst C0 (v := (1 : Int32)) dX1_usedBefore_3 (by decide) ?_
  refine g_isub C0 dX1_usedBefore_4 ?_
  refine g_istore C0 (lv' := [(4, .int (x0 - (1 : Int32))), (3, .int (0 : Int32)), (0, .ref h0), (1, .int x0), (2, .int x1)]) dX1_usedBefore_5 (by decide) rfl ?_
  refine g_lv [2, 4, 1, 0] (lv' := [(0, .ref h0), (2, .int x1), (3, .int (0 : Int32)), (4, .int (x0 - (1 : Int32)))]) rfl ?_
  exact bX1_usedBefore_7 C0 h0 h1 h2 h3 h4 out tcp tkd tsd tlm tfu ttb trb tgr tV tO tW  1000 tK x1 (0 : Int32) (x0 - (1 : Int32)) hf
theorem mX1_usedBefore (l : Launch) (D : va_G) (cB cC cI cO : ClassId)  (h0 h1 h2 h3 h4 : Nat) (tcp : Int32) (tkd : Int32) (tsd : Int32) (tlm : Int32) (tfu : Int32) (ttb : Int32) (trb : Int32) (tgr : Int32) (tK : Nat → Int32) (tV : Nat → Int32) (tO : Nat → Int32) (tW : Nat → Int32) (x0 : Int32) (x1 : Int32) (out : Int32) (hf : fX1_usedBefore tK x0 x1 = some out) : ∀ sz, Met l yX1_usedBefore (ws_ yX1_usedBefore cX1_usedBefore 5 (some .int)) rmX1_usedBefore (va_Pc [.ref h0, .int x0, .int x1] (hPre D (hTy cB cC cI cO) [(h0, .inr (5, [.ref h1, .ref h2, .ref h3, .ref h4, .int tcp, .int tkd, .int tsd, .int tlm, .int tfu, .int ttb, .int trb, .int tgr])), (h1, .inl (cI, 64, .inl tK)), (h2, .inl (cI, 64, .inl tV)), (h3, .inl (cI, 64, .inl tO)), (h4, .inl (cI, 64, .inl tW))] sz)) (hQi D [(h0, .inr (5, [.ref h1, .ref h2, .ref h3, .ref h4, .int tcp, .int tkd, .int tsd, .int tlm, .int tfu, .int ttb, .int trb, .int tgr])), (h1, .inl (cI, 64, .inl tK)), (h2, .inl (cI, 64, .inl tV)), (h3, .inl (cI, 64, .inl tO)), (h4, .inl (cI, 64, .inl tW))] out (va_A [(h0, .inr (5, [.ref h1, .ref h2, .ref h3, .ref h4, .int tcp, .int tkd, .int tsd, .int tlm, .int tfu, .int ttb, .int trb, .int tgr])), (h1, .inl (cI, 64, .inl tK)), (h2, .inl (cI, 64, .inl tV)), (h3, .inl (cI, 64, .inl tO)), (h4, .inl (cI, 64, .inl tW))] sz)) 0 0 (va_A [(h0, .inr (5, [.ref h1, .ref h2, .ref h3, .ref h4, .int tcp, .int tkd, .int tsd, .int tlm, .int tfu, .int ttb, .int trb, .int tgr])), (h1, .inl (cI, 64, .inl tK)), (h2, .inl (cI, 64, .inl tV)), (h3, .inl (cI, 64, .inl tO)), (h4, .inl (cI, 64, .inl tW))] sz) :=
  g_met (Qf := fun A => hQi D [(h0, .inr (5, [.ref h1, .ref h2, .ref h3, .ref h4, .int tcp, .int tkd, .int tsd, .int tlm, .int tfu, .int ttb, .int trb, .int tgr])), (h1, .inl (cI, 64, .inl tK)), (h2, .inl (cI, 64, .inl tV)), (h3, .inl (cI, 64, .inl tO)), (h4, .inl (cI, 64, .inl tW))] out A) (by decide +kernel) (Nat.le_of_ble_eq_true rfl) rfl (fun C0 => bX1_usedBefore C0 h0 h1 h2 h3 h4 out tcp tkd tsd tlm tfu ttb trb tgr tK tV tO tW x0 x1 hf)
abbrev rmX1_usedFrom : Room := { frames := 3, cells := 0, slots := 0, locals := 62 }
theorem hmX1_usedFrom : hMS yX1_usedFrom cX1_usedFrom 5 (some .int) 3 := ⟨q_490, q_29, q_489, by decide, by decide, by decide +kernel⟩
theorem dX1_usedFrom_0 : decode cX1_usedFrom 0 = .ok (.iconst 0, 1) := by decide +kernel
theorem dX1_usedFrom_1 : decode cX1_usedFrom 1 = .ok (.istore_n 3, 1) := by decide +kernel
theorem dX1_usedFrom_2 : decode cX1_usedFrom 2 = .ok (.iload_n 1, 1) := by decide +kernel
theorem dX1_usedFrom_3 : decode cX1_usedFrom 3 = .ok (.istore 4, 2) := by decide +kernel
theorem dX1_usedFrom_5 : decode cX1_usedFrom 5 = .ok (.iload 4, 2) := by decide +kernel
theorem dX1_usedFrom_7 : decode cX1_usedFrom 7 = .ok (.iload_n 2, 1) := by decide +kernel
theorem dX1_usedFrom_8 : decode cX1_usedFrom 8 = .ok (.if_icmp .ge 21, 3) := by decide +kernel
theorem dX1_usedFrom_11 : decode cX1_usedFrom 11 = .ok (.aload_n 0, 1) := by decide +kernel
theorem dX1_usedFrom_12 : decode cX1_usedFrom 12 = .ok (.iload 4, 2) := by decide +kernel
theorem dX1_usedFrom_14 : decode cX1_usedFrom 14 = .ok (.invokevirtual 13, 3) := by decide +kernel
theorem dX1_usedFrom_17 : decode cX1_usedFrom 17 = .ok (.ifCond .eq 12, 3) := by decide +kernel
theorem dX1_usedFrom_20 : decode cX1_usedFrom 20 = .ok (.iinc 3 1, 3) := by decide +kernel
theorem dX1_usedFrom_23 : decode cX1_usedFrom 23 = .ok (.iinc 4 1, 3) := by decide +kernel
theorem dX1_usedFrom_26 : decode cX1_usedFrom 26 = .ok (.goto (-21), 3) := by decide +kernel
theorem dX1_usedFrom_29 : decode cX1_usedFrom 29 = .ok (.iload_n 3, 1) := by decide +kernel
theorem dX1_usedFrom_30 : decode cX1_usedFrom 30 = .ok (.ireturn, 1) := by decide +kernel
set_option maxHeartbeats 4000000 in
set_option maxRecDepth 100000 in
theorem bX1_usedFrom_5 {p : Program} {l : Launch} {e : Env} {s : State} {m : MethodId} {args : Array Value} {below : List Frame} {meth : Method} {c : Code} {D : va_G} {cB cC cI cO : ClassId} {A : Nat → Prop} (C0 : gC RX1 cX1_usedFrom 5 (some .int) p s m args meth c D (hTy cB cC cI cO) A) (h0 h1 h2 h3 h4 : Nat) (out : Int32) (tcp : Int32) (tkd : Int32) (tsd : Int32) (tlm : Int32) (tfu : Int32) (ttb : Int32) (trb : Int32) (tgr : Int32) (tV : Nat → Int32) (tO : Nat → Int32) (tW : Nat → Int32)   : ∀ (n : Nat) (tK : Nat → Int32) (v2 : Int32) (v3 : Int32) (v4 : Int32), fX1_usedFrom_5 n tK v2 v3 v4 = some out → gG p l e rmX1_usedFrom s m args below meth c D A 5 (MQ below (hQi D [(h0, .inr (5, [.ref h1, .ref h2, .ref h3, .ref h4, .int tcp, .int tkd, .int tsd, .int tlm, .int tfu, .int ttb, .int trb, .int tgr])), (h1, .inl (cI, 64, .inl tK)), (h2, .inl (cI, 64, .inl tV)), (h3, .inl (cI, 64, .inl tO)), (h4, .inl (cI, 64, .inl tW))] out A) args s 0 0 A) 0 0 5 [(0, .ref h0), (2, .int v2), (3, .int v3), (4, .int v4)] [] [(h0, .inr (5, [.ref h1, .ref h2, .ref h3, .ref h4, .int tcp, .int tkd, .int tsd, .int tlm, .int tfu, .int ttb, .int trb, .int tgr])), (h1, .inl (cI, 64, .inl tK)), (h2, .inl (cI, 64, .inl tV)), (h3, .inl (cI, 64, .inl tO)), (h4, .inl (cI, 64, .inl tW))] := by
  intro n
  induction n with
  | zero => intro tK v2 v3 v4 hf; rw [fX1_usedFrom_5] at hf; cases hf
  | succ n ih =>
    intro tK v2 v3 v4 hf
    rw [fX1_usedFrom_5] at hf
    refine g_iload C0 dX1_usedFrom_5 3 rfl ?_
    refine g_iload_n C0 dX1_usedFrom_7 rfl 1 rfl ?_
    refine g_icmp_ge C0 (tgt := 29) dX1_usedFrom_8 (by decide) (fun c1 => ?_) (fun c1 => ?_)
    · rw [if_pos c1] at hf
      refine g_iload_n C0 dX1_usedFrom_29 rfl 2 rfl ?_
      cases hf
      exact g_iret C0 rfl dX1_usedFrom_30 rfl rfl
    · rw [if_neg c1] at hf
      refine g_aload_n C0 dX1_usedFrom_11 rfl 0 rfl ?_
      refine g_iload C0 dX1_usedFrom_12 3 rfl ?_
      obtain ⟨r2, er2, hf⟩ := hl_bd hf
      try dsimp only at hf
      refine g_callVi C0 (ws' := [(h0, .inr (5, [.ref h1, .ref h2, .ref h3, .ref h4, .int tcp, .int tkd, .int tsd, .int tlm, .int tfu, .int ttb, .int trb, .int tgr])), (h1, .inl (cI, 64, .inl tK)), (h2, .inl (cI, 64, .inl tV)), (h3, .inl (cI, 64, .inl tO)), (h4, .inl (cI, 64, .inl tW))]) (mX5_isUsed l D cB cC cI cO  h0 h1 h2 h3 h4 tcp tkd tsd tlm tfu ttb trb tgr tK tV tO tW v4 r2 er2) hmX5_isUsed q_456 ⟨Nat.le_of_ble_eq_true rfl, Nat.le_of_ble_eq_true rfl⟩ ⟨Nat.le_of_ble_eq_true rfl, Nat.le_of_ble_eq_true rfl⟩ rfl rfl [0, 1, 2, 3, 4] rfl rfl rfl rfl rfl 0 rfl rfl rfl (Nat.le_of_ble_eq_true rfl) dX1_usedFrom_14 ?_
      refine g_if_eq C0 (tgt := 29) dX1_usedFrom_17 (by decide) (fun c3 => ?_) (fun c3 => ?_)
      · rw [if_pos c3] at hf
        refine g_iload_n C0 dX1_usedFrom_29 rfl 2 rfl ?_
        cases hf
        exact g_iret C0 rfl dX1_usedFrom_30 rfl rfl
      · rw [if_neg c3] at hf
        refine g_iinc C0 (lv' := [(3, .int (v3 + (1 : Int32))), (0, .ref h0), (2, .int v2), (4, .int v4)]) dX1_usedFrom_20 2 rfl rfl (by decide) rfl ?_
        refine g_iinc C0 (lv' := [(4, .int (v4 + (1 : Int32))), (3, .int (v3 + (1 : Int32))), (0, .ref h0), (2, .int v2)]) dX1_usedFrom_23 3 rfl rfl (by decide) rfl ?_
        refine g_goto C0 (tgt := 5) dX1_usedFrom_26 (by decide) ?_
        refine g_lv [2, 3, 1, 0] (lv' := [(0, .ref h0), (2, .int v2), (3, .int (v3 + (1 : Int32))), (4, .int (v4 + (1 : Int32)))]) rfl ?_
        exact ih tK v2 (v3 + (1 : Int32)) (v4 + (1 : Int32)) hf
set_option maxHeartbeats 4000000 in
set_option maxRecDepth 100000 in
theorem bX1_usedFrom {p : Program} {l : Launch} {e : Env} {s : State} {m : MethodId} {args : Array Value} {below : List Frame} {meth : Method} {c : Code} {D : va_G} {cB cC cI cO : ClassId} {A : Nat → Prop} (C0 : gC RX1 cX1_usedFrom 5 (some .int) p s m args meth c D (hTy cB cC cI cO) A) (h0 h1 h2 h3 h4 : Nat) (out : Int32) (tcp : Int32) (tkd : Int32) (tsd : Int32) (tlm : Int32) (tfu : Int32) (ttb : Int32) (trb : Int32) (tgr : Int32) (tK : Nat → Int32) (tV : Nat → Int32) (tO : Nat → Int32) (tW : Nat → Int32) (x0 : Int32) (x1 : Int32) (hf : fX1_usedFrom tK x0 x1 = some out) : gG p l e rmX1_usedFrom s m args below meth c D A 5 (MQ below (hQi D [(h0, .inr (5, [.ref h1, .ref h2, .ref h3, .ref h4, .int tcp, .int tkd, .int tsd, .int tlm, .int tfu, .int ttb, .int trb, .int tgr])), (h1, .inl (cI, 64, .inl tK)), (h2, .inl (cI, 64, .inl tV)), (h3, .inl (cI, 64, .inl tO)), (h4, .inl (cI, 64, .inl tW))] out A) args s 0 0 A) 0 0 0 [(0, .ref h0), (1, .int x0), (2, .int x1)] [] [(h0, .inr (5, [.ref h1, .ref h2, .ref h3, .ref h4, .int tcp, .int tkd, .int tsd, .int tlm, .int tfu, .int ttb, .int trb, .int tgr])), (h1, .inl (cI, 64, .inl tK)), (h2, .inl (cI, 64, .inl tV)), (h3, .inl (cI, 64, .inl tO)), (h4, .inl (cI, 64, .inl tW))] := by
  unfold fX1_usedFrom at hf
  refine g_iconst C0 (v := (0 : Int32)) dX1_usedFrom_0 (by decide) ?_
  refine g_istore_n C0 (lv' := [(3, .int (0 : Int32)), (0, .ref h0), (1, .int x0), (2, .int x1)]) dX1_usedFrom_1 rfl (by decide) rfl ?_
  refine g_iload_n C0 dX1_usedFrom_2 rfl 2 rfl ?_
  refine g_istore C0 (lv' := [(4, .int x0), (3, .int (0 : Int32)), (0, .ref h0), (1, .int x0), (2, .int x1)]) dX1_usedFrom_3 (by decide) rfl ?_
  refine g_lv [2, 4, 1, 0] (lv' := [(0, .ref h0), (2, .int x1), (3, .int (0 : Int32)), (4, .int x0)]) rfl ?_
  exact bX1_usedFrom_5 C0 h0 h1 h2 h3 h4 out tcp tkd tsd tlm tfu ttb trb tgr tV tO tW  1000 tK x1 (0 : Int32) x0 hf
theorem mX1_usedFrom (l : Launch) (D : va_G) (cB cC cI cO : ClassId)  (h0 h1 h2 h3 h4 : Nat) (tcp : Int32) (tkd : Int32) (tsd : Int32) (tlm : Int32) (tfu : Int32) (ttb : Int32) (trb : Int32) (tgr : Int32) (tK : Nat → Int32) (tV : Nat → Int32) (tO : Nat → Int32) (tW : Nat → Int32) (x0 : Int32) (x1 : Int32) (out : Int32) (hf : fX1_usedFrom tK x0 x1 = some out) : ∀ sz, Met l yX1_usedFrom (ws_ yX1_usedFrom cX1_usedFrom 5 (some .int)) rmX1_usedFrom (va_Pc [.ref h0, .int x0, .int x1] (hPre D (hTy cB cC cI cO) [(h0, .inr (5, [.ref h1, .ref h2, .ref h3, .ref h4, .int tcp, .int tkd, .int tsd, .int tlm, .int tfu, .int ttb, .int trb, .int tgr])), (h1, .inl (cI, 64, .inl tK)), (h2, .inl (cI, 64, .inl tV)), (h3, .inl (cI, 64, .inl tO)), (h4, .inl (cI, 64, .inl tW))] sz)) (hQi D [(h0, .inr (5, [.ref h1, .ref h2, .ref h3, .ref h4, .int tcp, .int tkd, .int tsd, .int tlm, .int tfu, .int ttb, .int trb, .int tgr])), (h1, .inl (cI, 64, .inl tK)), (h2, .inl (cI, 64, .inl tV)), (h3, .inl (cI, 64, .inl tO)), (h4, .inl (cI, 64, .inl tW))] out (va_A [(h0, .inr (5, [.ref h1, .ref h2, .ref h3, .ref h4, .int tcp, .int tkd, .int tsd, .int tlm, .int tfu, .int ttb, .int trb, .int tgr])), (h1, .inl (cI, 64, .inl tK)), (h2, .inl (cI, 64, .inl tV)), (h3, .inl (cI, 64, .inl tO)), (h4, .inl (cI, 64, .inl tW))] sz)) 0 0 (va_A [(h0, .inr (5, [.ref h1, .ref h2, .ref h3, .ref h4, .int tcp, .int tkd, .int tsd, .int tlm, .int tfu, .int ttb, .int trb, .int tgr])), (h1, .inl (cI, 64, .inl tK)), (h2, .inl (cI, 64, .inl tV)), (h3, .inl (cI, 64, .inl tO)), (h4, .inl (cI, 64, .inl tW))] sz) :=
  g_met (Qf := fun A => hQi D [(h0, .inr (5, [.ref h1, .ref h2, .ref h3, .ref h4, .int tcp, .int tkd, .int tsd, .int tlm, .int tfu, .int ttb, .int trb, .int tgr])), (h1, .inl (cI, 64, .inl tK)), (h2, .inl (cI, 64, .inl tV)), (h3, .inl (cI, 64, .inl tO)), (h4, .inl (cI, 64, .inl tW))] out A) (by decide +kernel) (Nat.le_of_ble_eq_true rfl) rfl (fun C0 => bX1_usedFrom C0 h0 h1 h2 h3 h4 out tcp tkd tsd tlm tfu ttb trb tgr tK tV tO tW x0 x1 hf)
def rmX1_largestIn (n : Nat) : Room := { frames := n + 4, cells := 0, slots := 0, locals := 26 * n + 86 }
theorem hmX1_largestIn : hMS yX1_largestIn cX1_largestIn 7 (some .int) 4 := ⟨q_493, q_29, q_492, by decide, by decide, by decide +kernel⟩
theorem dX1_largestIn_0 : decode cX1_largestIn 0 = .ok (.iload_n 1, 1) := by decide +kernel
theorem dX1_largestIn_1 : decode cX1_largestIn 1 = .ok (.iload_n 2, 1) := by decide +kernel
theorem dX1_largestIn_2 : decode cX1_largestIn 2 = .ok (.if_icmp .ge 9, 3) := by decide +kernel
theorem dX1_largestIn_5 : decode cX1_largestIn 5 = .ok (.iload_n 3, 1) := by decide +kernel
theorem dX1_largestIn_6 : decode cX1_largestIn 6 = .ok (.bipush 8, 2) := by decide +kernel
theorem dX1_largestIn_8 : decode cX1_largestIn 8 = .ok (.if_icmp .le 5, 3) := by decide +kernel
theorem dX1_largestIn_11 : decode cX1_largestIn 11 = .ok (.iconst 0, 1) := by decide +kernel
theorem dX1_largestIn_12 : decode cX1_largestIn 12 = .ok (.ireturn, 1) := by decide +kernel
theorem dX1_largestIn_13 : decode cX1_largestIn 13 = .ok (.iload_n 2, 1) := by decide +kernel
theorem dX1_largestIn_14 : decode cX1_largestIn 14 = .ok (.iload_n 1, 1) := by decide +kernel
theorem dX1_largestIn_15 : decode cX1_largestIn 15 = .ok (.isub, 1) := by decide +kernel
theorem dX1_largestIn_16 : decode cX1_largestIn 16 = .ok (.iconst 1, 1) := by decide +kernel
theorem dX1_largestIn_17 : decode cX1_largestIn 17 = .ok (.if_icmp .ne 17, 3) := by decide +kernel
theorem dX1_largestIn_20 : decode cX1_largestIn 20 = .ok (.aload_n 0, 1) := by decide +kernel
theorem dX1_largestIn_21 : decode cX1_largestIn 21 = .ok (.iload_n 1, 1) := by decide +kernel
theorem dX1_largestIn_22 : decode cX1_largestIn 22 = .ok (.invokevirtual 13, 3) := by decide +kernel
theorem dX1_largestIn_25 : decode cX1_largestIn 25 = .ok (.ifCond .eq 7, 3) := by decide +kernel
theorem dX1_largestIn_28 : decode cX1_largestIn 28 = .ok (.iconst 1, 1) := by decide +kernel
theorem dX1_largestIn_29 : decode cX1_largestIn 29 = .ok (.goto 4, 3) := by decide +kernel
theorem dX1_largestIn_32 : decode cX1_largestIn 32 = .ok (.iconst 0, 1) := by decide +kernel
theorem dX1_largestIn_33 : decode cX1_largestIn 33 = .ok (.ireturn, 1) := by decide +kernel
theorem dX1_largestIn_34 : decode cX1_largestIn 34 = .ok (.iload_n 1, 1) := by decide +kernel
theorem dX1_largestIn_35 : decode cX1_largestIn 35 = .ok (.iload_n 2, 1) := by decide +kernel
theorem dX1_largestIn_36 : decode cX1_largestIn 36 = .ok (.iadd, 1) := by decide +kernel
theorem dX1_largestIn_37 : decode cX1_largestIn 37 = .ok (.iconst 2, 1) := by decide +kernel
theorem dX1_largestIn_38 : decode cX1_largestIn 38 = .ok (.idiv, 1) := by decide +kernel
theorem dX1_largestIn_39 : decode cX1_largestIn 39 = .ok (.istore 4, 2) := by decide +kernel
theorem dX1_largestIn_41 : decode cX1_largestIn 41 = .ok (.aload_n 0, 1) := by decide +kernel
theorem dX1_largestIn_42 : decode cX1_largestIn 42 = .ok (.iload_n 1, 1) := by decide +kernel
theorem dX1_largestIn_43 : decode cX1_largestIn 43 = .ok (.iload 4, 2) := by decide +kernel
theorem dX1_largestIn_45 : decode cX1_largestIn 45 = .ok (.iload_n 3, 1) := by decide +kernel
theorem dX1_largestIn_46 : decode cX1_largestIn 46 = .ok (.iconst 1, 1) := by decide +kernel
theorem dX1_largestIn_47 : decode cX1_largestIn 47 = .ok (.iadd, 1) := by decide +kernel
theorem dX1_largestIn_48 : decode cX1_largestIn 48 = .ok (.invokestatic 36, 3) := by decide +kernel
theorem dX1_largestIn_51 : decode cX1_largestIn 51 = .ok (.aload_n 0, 1) := by decide +kernel
theorem dX1_largestIn_52 : decode cX1_largestIn 52 = .ok (.iload 4, 2) := by decide +kernel
theorem dX1_largestIn_54 : decode cX1_largestIn 54 = .ok (.iload_n 2, 1) := by decide +kernel
theorem dX1_largestIn_55 : decode cX1_largestIn 55 = .ok (.iload_n 3, 1) := by decide +kernel
theorem dX1_largestIn_56 : decode cX1_largestIn 56 = .ok (.iconst 1, 1) := by decide +kernel
theorem dX1_largestIn_57 : decode cX1_largestIn 57 = .ok (.iadd, 1) := by decide +kernel
theorem dX1_largestIn_58 : decode cX1_largestIn 58 = .ok (.invokestatic 36, 3) := by decide +kernel
theorem dX1_largestIn_61 : decode cX1_largestIn 61 = .ok (.invokestatic 21, 3) := by decide +kernel
theorem dX1_largestIn_64 : decode cX1_largestIn 64 = .ok (.istore 5, 2) := by decide +kernel
theorem dX1_largestIn_66 : decode cX1_largestIn 66 = .ok (.aload_n 0, 1) := by decide +kernel
theorem dX1_largestIn_67 : decode cX1_largestIn 67 = .ok (.iload 4, 2) := by decide +kernel
theorem dX1_largestIn_69 : decode cX1_largestIn 69 = .ok (.iload_n 1, 1) := by decide +kernel
theorem dX1_largestIn_70 : decode cX1_largestIn 70 = .ok (.invokestatic 27, 3) := by decide +kernel
theorem dX1_largestIn_73 : decode cX1_largestIn 73 = .ok (.aload_n 0, 1) := by decide +kernel
theorem dX1_largestIn_74 : decode cX1_largestIn 74 = .ok (.iload 4, 2) := by decide +kernel
theorem dX1_largestIn_76 : decode cX1_largestIn 76 = .ok (.iload_n 2, 1) := by decide +kernel
theorem dX1_largestIn_77 : decode cX1_largestIn 77 = .ok (.invokestatic 33, 3) := by decide +kernel
theorem dX1_largestIn_80 : decode cX1_largestIn 80 = .ok (.iadd, 1) := by decide +kernel
theorem dX1_largestIn_81 : decode cX1_largestIn 81 = .ok (.istore 6, 2) := by decide +kernel
theorem dX1_largestIn_83 : decode cX1_largestIn 83 = .ok (.iload 5, 2) := by decide +kernel
theorem dX1_largestIn_85 : decode cX1_largestIn 85 = .ok (.iload 6, 2) := by decide +kernel
theorem dX1_largestIn_87 : decode cX1_largestIn 87 = .ok (.invokestatic 21, 3) := by decide +kernel
theorem dX1_largestIn_90 : decode cX1_largestIn 90 = .ok (.ireturn, 1) := by decide +kernel
set_option maxHeartbeats 4000000 in
set_option maxRecDepth 100000 in
theorem bX1_largestIn {p : Program} {l : Launch} {e : Env} {s : State} {m : MethodId} {args : Array Value} {below : List Frame} {meth : Method} {c : Code} {D : va_G} {cB cC cI cO : ClassId} {A : Nat → Prop} (C0 : gC RX1 cX1_largestIn 7 (some .int) p s m args meth c D (hTy cB cC cI cO) A) (h0 h1 h2 h3 h4 : Nat) (n : Nat) (ihm : ∀ (tcp : Int32) (tkd : Int32) (tsd : Int32) (tlm : Int32) (tfu : Int32) (ttb : Int32) (trb : Int32) (tgr : Int32) (tK : Nat → Int32) (tV : Nat → Int32) (tO : Nat → Int32) (tW : Nat → Int32) (x0 : Int32) (x1 : Int32) (x2 : Int32) (out : Int32), fX1_largestIn n tK x0 x1 x2 = some out → ∀ sz, Met l yX1_largestIn (ws_ yX1_largestIn cX1_largestIn 7 (some .int)) (rmX1_largestIn n) (va_Pc [.ref h0, .int x0, .int x1, .int x2] (hPre D (hTy cB cC cI cO) [(h0, .inr (5, [.ref h1, .ref h2, .ref h3, .ref h4, .int tcp, .int tkd, .int tsd, .int tlm, .int tfu, .int ttb, .int trb, .int tgr])), (h1, .inl (cI, 64, .inl tK)), (h2, .inl (cI, 64, .inl tV)), (h3, .inl (cI, 64, .inl tO)), (h4, .inl (cI, 64, .inl tW))] sz)) (hQi D [(h0, .inr (5, [.ref h1, .ref h2, .ref h3, .ref h4, .int tcp, .int tkd, .int tsd, .int tlm, .int tfu, .int ttb, .int trb, .int tgr])), (h1, .inl (cI, 64, .inl tK)), (h2, .inl (cI, 64, .inl tV)), (h3, .inl (cI, 64, .inl tO)), (h4, .inl (cI, 64, .inl tW))] out (va_A [(h0, .inr (5, [.ref h1, .ref h2, .ref h3, .ref h4, .int tcp, .int tkd, .int tsd, .int tlm, .int tfu, .int ttb, .int trb, .int tgr])), (h1, .inl (cI, 64, .inl tK)), (h2, .inl (cI, 64, .inl tV)), (h3, .inl (cI, 64, .inl tO)), (h4, .inl (cI, 64, .inl tW))] sz)) 0 0 (va_A [(h0, .inr (5, [.ref h1, .ref h2, .ref h3, .ref h4, .int tcp, .int tkd, .int tsd, .int tlm, .int tfu, .int ttb, .int trb, .int tgr])), (h1, .inl (cI, 64, .inl tK)), (h2, .inl (cI, 64, .inl tV)), (h3, .inl (cI, 64, .inl tO)), (h4, .inl (cI, 64, .inl tW))] sz)) (out : Int32) (tcp : Int32) (tkd : Int32) (tsd : Int32) (tlm : Int32) (tfu : Int32) (ttb : Int32) (trb : Int32) (tgr : Int32) (tK : Nat → Int32) (tV : Nat → Int32) (tO : Nat → Int32) (tW : Nat → Int32) (x0 : Int32) (x1 : Int32) (x2 : Int32) (hf : fX1_largestIn (n + 1) tK x0 x1 x2 = some out) : gG p l e (rmX1_largestIn (n + 1)) s m args below meth c D A 7 (MQ below (hQi D [(h0, .inr (5, [.ref h1, .ref h2, .ref h3, .ref h4, .int tcp, .int tkd, .int tsd, .int tlm, .int tfu, .int ttb, .int trb, .int tgr])), (h1, .inl (cI, 64, .inl tK)), (h2, .inl (cI, 64, .inl tV)), (h3, .inl (cI, 64, .inl tO)), (h4, .inl (cI, 64, .inl tW))] out A) args s 0 0 A) 0 0 0 [(0, .ref h0), (1, .int x0), (2, .int x1), (3, .int x2)] [] [(h0, .inr (5, [.ref h1, .ref h2, .ref h3, .ref h4, .int tcp, .int tkd, .int tsd, .int tlm, .int tfu, .int ttb, .int trb, .int tgr])), (h1, .inl (cI, 64, .inl tK)), (h2, .inl (cI, 64, .inl tV)), (h3, .inl (cI, 64, .inl tO)), (h4, .inl (cI, 64, .inl tW))] := by
  rw [fX1_largestIn] at hf
  refine g_iload_n C0 dX1_largestIn_0 rfl 1 rfl ?_
  refine g_iload_n C0 dX1_largestIn_1 rfl 2 rfl ?_
  refine g_icmp_ge C0 (tgt := 11) dX1_largestIn_2 (by decide) (fun c1 => ?_) (fun c1 => ?_)
  · rw [if_pos c1] at hf
    refine g_iconst C0 (v := (0 : Int32)) dX1_largestIn_11 (by decide) ?_
    cases hf
    exact g_iret C0 rfl dX1_largestIn_12 rfl rfl
  · rw [if_neg c1] at hf
    refine g_iload_n C0 dX1_largestIn_5 rfl 3 rfl ?_
    refine g_bipush C0 (v := (8 : Int32)) dX1_largestIn_6 (by decide) ?_
    refine g_icmp_le C0 (tgt := 13) dX1_largestIn_8 (by decide) (fun c2 => ?_) (fun c2 => ?_)
    · rw [if_pos c2] at hf
      refine g_iload_n C0 dX1_largestIn_13 rfl 2 rfl ?_
      refine g_iload_n C0 dX1_largestIn_14 rfl 1 rfl ?_
      refine g_isub C0 dX1_largestIn_15 ?_
      refine g_iconst C0 (v := (1 : Int32)) dX1_largestIn_16 (by decide) ?_
      refine g_icmp_ne C0 (tgt := 34) dX1_largestIn_17 (by decide) (fun c3 => ?_) (fun c3 => ?_)
      · rw [if_neg c3] at hf
        refine g_iload_n C0 dX1_largestIn_34 rfl 1 rfl ?_
        refine g_iload_n C0 dX1_largestIn_35 rfl 2 rfl ?_
        refine g_iadd C0 dX1_largestIn_36 ?_
        refine g_iconst C0 (v := (2 : Int32)) dX1_largestIn_37 (by decide) ?_
        refine g_idiv C0 dX1_largestIn_38 (by decide) ?_
        refine g_istore C0 (lv' := [(4, .int ((x0 + x1) / (2 : Int32))), (0, .ref h0), (1, .int x0), (2, .int x1), (3, .int x2)]) dX1_largestIn_39 (by decide) rfl ?_
        refine g_aload_n C0 dX1_largestIn_41 rfl 1 rfl ?_
        refine g_iload_n C0 dX1_largestIn_42 rfl 2 rfl ?_
        refine g_iload C0 dX1_largestIn_43 0 rfl ?_
        refine g_iload_n C0 dX1_largestIn_45 rfl 4 rfl ?_
        refine g_iconst C0 (v := (1 : Int32)) dX1_largestIn_46 (by decide) ?_
        refine g_iadd C0 dX1_largestIn_47 ?_
        obtain ⟨r4, er4, hf⟩ := hl_bd hf
        try dsimp only at hf
        refine g_callSi C0 (ws' := [(h0, .inr (5, [.ref h1, .ref h2, .ref h3, .ref h4, .int tcp, .int tkd, .int tsd, .int tlm, .int tfu, .int ttb, .int trb, .int tgr])), (h1, .inl (cI, 64, .inl tK)), (h2, .inl (cI, 64, .inl tV)), (h3, .inl (cI, 64, .inl tO)), (h4, .inl (cI, 64, .inl tW))]) (ihm tcp tkd tsd tlm tfu ttb trb tgr tK tV tO tW x0 ((x0 + x1) / (2 : Int32)) (x2 + (1 : Int32)) r4 er4) hmX1_largestIn q_491 ⟨by simp only [rmX1_largestIn]; omega, by simp only [rmX1_largestIn]; omega⟩ ⟨Nat.le_of_ble_eq_true rfl, Nat.le_of_ble_eq_true rfl⟩ rfl rfl [0, 1, 2, 3, 4] rfl rfl rfl rfl rfl rfl (Nat.le_of_ble_eq_true rfl) dX1_largestIn_48 ?_
        refine g_aload_n C0 dX1_largestIn_51 rfl 1 rfl ?_
        refine g_iload C0 dX1_largestIn_52 0 rfl ?_
        refine g_iload_n C0 dX1_largestIn_54 rfl 3 rfl ?_
        refine g_iload_n C0 dX1_largestIn_55 rfl 4 rfl ?_
        refine g_iconst C0 (v := (1 : Int32)) dX1_largestIn_56 (by decide) ?_
        refine g_iadd C0 dX1_largestIn_57 ?_
        obtain ⟨r5, er5, hf⟩ := hl_bd hf
        try dsimp only at hf
        refine g_callSi C0 (ws' := [(h0, .inr (5, [.ref h1, .ref h2, .ref h3, .ref h4, .int tcp, .int tkd, .int tsd, .int tlm, .int tfu, .int ttb, .int trb, .int tgr])), (h1, .inl (cI, 64, .inl tK)), (h2, .inl (cI, 64, .inl tV)), (h3, .inl (cI, 64, .inl tO)), (h4, .inl (cI, 64, .inl tW))]) (ihm tcp tkd tsd tlm tfu ttb trb tgr tK tV tO tW ((x0 + x1) / (2 : Int32)) x1 (x2 + (1 : Int32)) r5 er5) hmX1_largestIn q_491 ⟨by simp only [rmX1_largestIn]; omega, by simp only [rmX1_largestIn]; omega⟩ ⟨Nat.le_of_ble_eq_true rfl, Nat.le_of_ble_eq_true rfl⟩ rfl rfl [0, 1, 2, 3, 4] rfl rfl rfl rfl rfl rfl (Nat.le_of_ble_eq_true rfl) dX1_largestIn_58 ?_
        refine g_mmax C0 q_475 q_476 q_22 q_477 (Nat.le_of_ble_eq_true rfl) ⟨Nat.le_of_ble_eq_true rfl, Nat.le_of_ble_eq_true rfl⟩ (Nat.le_of_ble_eq_true rfl) dX1_largestIn_61 ?_
        refine g_istore C0 (lv' := [(5, .int (if r4 < r5 then r5 else r4)), (4, .int ((x0 + x1) / (2 : Int32))), (0, .ref h0), (1, .int x0), (2, .int x1), (3, .int x2)]) dX1_largestIn_64 (by decide) rfl ?_
        refine g_aload_n C0 dX1_largestIn_66 rfl 2 rfl ?_
        refine g_iload C0 dX1_largestIn_67 1 rfl ?_
        refine g_iload_n C0 dX1_largestIn_69 rfl 3 rfl ?_
        obtain ⟨r6, er6, hf⟩ := hl_bd hf
        try dsimp only at hf
        refine g_callSi C0 (ws' := [(h0, .inr (5, [.ref h1, .ref h2, .ref h3, .ref h4, .int tcp, .int tkd, .int tsd, .int tlm, .int tfu, .int ttb, .int trb, .int tgr])), (h1, .inl (cI, 64, .inl tK)), (h2, .inl (cI, 64, .inl tV)), (h3, .inl (cI, 64, .inl tO)), (h4, .inl (cI, 64, .inl tW))]) (mX1_usedBefore l D cB cC cI cO  h0 h1 h2 h3 h4 tcp tkd tsd tlm tfu ttb trb tgr tK tV tO tW ((x0 + x1) / (2 : Int32)) x0 r6 er6) hmX1_usedBefore q_485 ⟨by simp only [rmX1_largestIn, rmX1_usedBefore]; omega, by simp only [rmX1_largestIn, rmX1_usedBefore]; omega⟩ ⟨Nat.le_of_ble_eq_true rfl, Nat.le_of_ble_eq_true rfl⟩ rfl rfl [0, 1, 2, 3, 4] rfl rfl rfl rfl rfl rfl (Nat.le_of_ble_eq_true rfl) dX1_largestIn_70 ?_
        refine g_aload_n C0 dX1_largestIn_73 rfl 2 rfl ?_
        refine g_iload C0 dX1_largestIn_74 1 rfl ?_
        refine g_iload_n C0 dX1_largestIn_76 rfl 4 rfl ?_
        obtain ⟨r7, er7, hf⟩ := hl_bd hf
        try dsimp only at hf
        refine g_callSi C0 (ws' := [(h0, .inr (5, [.ref h1, .ref h2, .ref h3, .ref h4, .int tcp, .int tkd, .int tsd, .int tlm, .int tfu, .int ttb, .int trb, .int tgr])), (h1, .inl (cI, 64, .inl tK)), (h2, .inl (cI, 64, .inl tV)), (h3, .inl (cI, 64, .inl tO)), (h4, .inl (cI, 64, .inl tW))]) (mX1_usedFrom l D cB cC cI cO  h0 h1 h2 h3 h4 tcp tkd tsd tlm tfu ttb trb tgr tK tV tO tW ((x0 + x1) / (2 : Int32)) x1 r7 er7) hmX1_usedFrom q_488 ⟨by simp only [rmX1_largestIn, rmX1_usedFrom]; omega, by simp only [rmX1_largestIn, rmX1_usedFrom]; omega⟩ ⟨Nat.le_of_ble_eq_true rfl, Nat.le_of_ble_eq_true rfl⟩ rfl rfl [0, 1, 2, 3, 4] rfl rfl rfl rfl rfl rfl (Nat.le_of_ble_eq_true rfl) dX1_largestIn_77 ?_
        refine g_iadd C0 dX1_largestIn_80 ?_
        refine g_istore C0 (lv' := [(6, .int (r6 + r7)), (5, .int (if r4 < r5 then r5 else r4)), (4, .int ((x0 + x1) / (2 : Int32))), (0, .ref h0), (1, .int x0), (2, .int x1), (3, .int x2)]) dX1_largestIn_81 (by decide) rfl ?_
        refine g_iload C0 dX1_largestIn_83 1 rfl ?_
        refine g_iload C0 dX1_largestIn_85 0 rfl ?_
        refine g_mmax C0 q_475 q_476 q_22 q_477 (Nat.le_of_ble_eq_true rfl) ⟨Nat.le_of_ble_eq_true rfl, Nat.le_of_ble_eq_true rfl⟩ (Nat.le_of_ble_eq_true rfl) dX1_largestIn_87 ?_
        cases hf
        exact g_iret C0 rfl dX1_largestIn_90 rfl rfl
      · rw [if_pos c3] at hf
        refine g_aload_n C0 dX1_largestIn_20 rfl 0 rfl ?_
        refine g_iload_n C0 dX1_largestIn_21 rfl 1 rfl ?_
        obtain ⟨r8, er8, hf⟩ := hl_bd hf
        try dsimp only at hf
        refine g_callVi C0 (ws' := [(h0, .inr (5, [.ref h1, .ref h2, .ref h3, .ref h4, .int tcp, .int tkd, .int tsd, .int tlm, .int tfu, .int ttb, .int trb, .int tgr])), (h1, .inl (cI, 64, .inl tK)), (h2, .inl (cI, 64, .inl tV)), (h3, .inl (cI, 64, .inl tO)), (h4, .inl (cI, 64, .inl tW))]) (mX5_isUsed l D cB cC cI cO  h0 h1 h2 h3 h4 tcp tkd tsd tlm tfu ttb trb tgr tK tV tO tW x0 r8 er8) hmX5_isUsed q_456 ⟨by simp only [rmX1_largestIn, rmX5_isUsed]; omega, by simp only [rmX1_largestIn, rmX5_isUsed]; omega⟩ ⟨Nat.le_of_ble_eq_true rfl, Nat.le_of_ble_eq_true rfl⟩ rfl rfl [0, 1, 2, 3, 4] rfl rfl rfl rfl rfl 0 rfl rfl rfl (Nat.le_of_ble_eq_true rfl) dX1_largestIn_22 ?_
        refine g_if_eq C0 (tgt := 32) dX1_largestIn_25 (by decide) (fun c9 => ?_) (fun c9 => ?_)
        · rw [if_pos c9] at hf
          refine g_iconst C0 (v := (0 : Int32)) dX1_largestIn_32 (by decide) ?_
          cases hf
          exact g_iret C0 rfl dX1_largestIn_33 rfl rfl
        · rw [if_neg c9] at hf
          refine g_iconst C0 (v := (1 : Int32)) dX1_largestIn_28 (by decide) ?_
          refine g_goto C0 (tgt := 33) dX1_largestIn_29 (by decide) ?_
          cases hf
          exact g_iret C0 rfl dX1_largestIn_33 rfl rfl
    · rw [if_neg c2] at hf
      refine g_iconst C0 (v := (0 : Int32)) dX1_largestIn_11 (by decide) ?_
      cases hf
      exact g_iret C0 rfl dX1_largestIn_12 rfl rfl
theorem mX1_largestIn (l : Launch) (D : va_G) (cB cC cI cO : ClassId) (h0 h1 h2 h3 h4 : Nat) : ∀ (n : Nat), ∀ (tcp : Int32) (tkd : Int32) (tsd : Int32) (tlm : Int32) (tfu : Int32) (ttb : Int32) (trb : Int32) (tgr : Int32) (tK : Nat → Int32) (tV : Nat → Int32) (tO : Nat → Int32) (tW : Nat → Int32) (x0 : Int32) (x1 : Int32) (x2 : Int32) (out : Int32), fX1_largestIn n tK x0 x1 x2 = some out → ∀ sz, Met l yX1_largestIn (ws_ yX1_largestIn cX1_largestIn 7 (some .int)) (rmX1_largestIn n) (va_Pc [.ref h0, .int x0, .int x1, .int x2] (hPre D (hTy cB cC cI cO) [(h0, .inr (5, [.ref h1, .ref h2, .ref h3, .ref h4, .int tcp, .int tkd, .int tsd, .int tlm, .int tfu, .int ttb, .int trb, .int tgr])), (h1, .inl (cI, 64, .inl tK)), (h2, .inl (cI, 64, .inl tV)), (h3, .inl (cI, 64, .inl tO)), (h4, .inl (cI, 64, .inl tW))] sz)) (hQi D [(h0, .inr (5, [.ref h1, .ref h2, .ref h3, .ref h4, .int tcp, .int tkd, .int tsd, .int tlm, .int tfu, .int ttb, .int trb, .int tgr])), (h1, .inl (cI, 64, .inl tK)), (h2, .inl (cI, 64, .inl tV)), (h3, .inl (cI, 64, .inl tO)), (h4, .inl (cI, 64, .inl tW))] out (va_A [(h0, .inr (5, [.ref h1, .ref h2, .ref h3, .ref h4, .int tcp, .int tkd, .int tsd, .int tlm, .int tfu, .int ttb, .int trb, .int tgr])), (h1, .inl (cI, 64, .inl tK)), (h2, .inl (cI, 64, .inl tV)), (h3, .inl (cI, 64, .inl tO)), (h4, .inl (cI, 64, .inl tW))] sz)) 0 0 (va_A [(h0, .inr (5, [.ref h1, .ref h2, .ref h3, .ref h4, .int tcp, .int tkd, .int tsd, .int tlm, .int tfu, .int ttb, .int trb, .int tgr])), (h1, .inl (cI, 64, .inl tK)), (h2, .inl (cI, 64, .inl tV)), (h3, .inl (cI, 64, .inl tO)), (h4, .inl (cI, 64, .inl tW))] sz) := by
  intro n
  induction n with
  | zero => intro tcp tkd tsd tlm tfu ttb trb tgr tK tV tO tW x0 x1 x2 out hf; rw [fX1_largestIn] at hf; cases hf
  | succ n ihm => intro tcp tkd tsd tlm tfu ttb trb tgr tK tV tO tW x0 x1 x2 out hf; exact g_met (Qf := fun A => hQi D [(h0, .inr (5, [.ref h1, .ref h2, .ref h3, .ref h4, .int tcp, .int tkd, .int tsd, .int tlm, .int tfu, .int ttb, .int trb, .int tgr])), (h1, .inl (cI, 64, .inl tK)), (h2, .inl (cI, 64, .inl tV)), (h3, .inl (cI, 64, .inl tO)), (h4, .inl (cI, 64, .inl tW))] out A) (by decide +kernel) (Nat.le_of_ble_eq_true rfl) rfl (fun C0 => bX1_largestIn C0 h0 h1 h2 h3 h4 n ihm out tcp tkd tsd tlm tfu ttb trb tgr tK tV tO tW x0 x1 x2 hf)
abbrev rmX1_largestOfHalves : Room := { frames := 17, cells := 0, slots := 0, locals := 424 }
theorem hmX1_largestOfHalves : hMS yX1_largestOfHalves cX1_largestOfHalves 3 (some .int) 1 := ⟨q_484, q_29, q_483, by decide, by decide, by decide +kernel⟩
theorem dX1_largestOfHalves_0 : decode cX1_largestOfHalves 0 = .ok (.aload_n 0, 1) := by decide +kernel
theorem dX1_largestOfHalves_1 : decode cX1_largestOfHalves 1 = .ok (.getfield 7, 3) := by decide +kernel
theorem dX1_largestOfHalves_4 : decode cX1_largestOfHalves 4 = .ok (.istore_n 1, 1) := by decide +kernel
theorem dX1_largestOfHalves_5 : decode cX1_largestOfHalves 5 = .ok (.aload_n 0, 1) := by decide +kernel
theorem dX1_largestOfHalves_6 : decode cX1_largestOfHalves 6 = .ok (.iload_n 1, 1) := by decide +kernel
theorem dX1_largestOfHalves_7 : decode cX1_largestOfHalves 7 = .ok (.iconst 0, 1) := by decide +kernel
theorem dX1_largestOfHalves_8 : decode cX1_largestOfHalves 8 = .ok (.invokestatic 27, 3) := by decide +kernel
theorem dX1_largestOfHalves_11 : decode cX1_largestOfHalves 11 = .ok (.aload_n 0, 1) := by decide +kernel
theorem dX1_largestOfHalves_12 : decode cX1_largestOfHalves 12 = .ok (.iconst 0, 1) := by decide +kernel
theorem dX1_largestOfHalves_13 : decode cX1_largestOfHalves 13 = .ok (.iload_n 1, 1) := by decide +kernel
theorem dX1_largestOfHalves_14 : decode cX1_largestOfHalves 14 = .ok (.invokestatic 33, 3) := by decide +kernel
theorem dX1_largestOfHalves_17 : decode cX1_largestOfHalves 17 = .ok (.iadd, 1) := by decide +kernel
theorem dX1_largestOfHalves_18 : decode cX1_largestOfHalves 18 = .ok (.istore_n 2, 1) := by decide +kernel
theorem dX1_largestOfHalves_19 : decode cX1_largestOfHalves 19 = .ok (.iload_n 2, 1) := by decide +kernel
theorem dX1_largestOfHalves_20 : decode cX1_largestOfHalves 20 = .ok (.aload_n 0, 1) := by decide +kernel
theorem dX1_largestOfHalves_21 : decode cX1_largestOfHalves 21 = .ok (.iconst 0, 1) := by decide +kernel
theorem dX1_largestOfHalves_22 : decode cX1_largestOfHalves 22 = .ok (.iload_n 1, 1) := by decide +kernel
theorem dX1_largestOfHalves_23 : decode cX1_largestOfHalves 23 = .ok (.iconst 0, 1) := by decide +kernel
theorem dX1_largestOfHalves_24 : decode cX1_largestOfHalves 24 = .ok (.invokestatic 36, 3) := by decide +kernel
theorem dX1_largestOfHalves_27 : decode cX1_largestOfHalves 27 = .ok (.invokestatic 21, 3) := by decide +kernel
theorem dX1_largestOfHalves_30 : decode cX1_largestOfHalves 30 = .ok (.ireturn, 1) := by decide +kernel
set_option maxHeartbeats 4000000 in
set_option maxRecDepth 100000 in
theorem bX1_largestOfHalves {p : Program} {l : Launch} {e : Env} {s : State} {m : MethodId} {args : Array Value} {below : List Frame} {meth : Method} {c : Code} {D : va_G} {cB cC cI cO : ClassId} {A : Nat → Prop} (C0 : gC RX1 cX1_largestOfHalves 3 (some .int) p s m args meth c D (hTy cB cC cI cO) A) (h0 h1 h2 h3 h4 : Nat) (out : Int32) (tcp : Int32) (tkd : Int32) (tsd : Int32) (tlm : Int32) (tfu : Int32) (ttb : Int32) (trb : Int32) (tgr : Int32) (tK : Nat → Int32) (tV : Nat → Int32) (tO : Nat → Int32) (tW : Nat → Int32)  (hf : fX1_largestOfHalves tcp tK = some out) : gG p l e rmX1_largestOfHalves s m args below meth c D A 3 (MQ below (hQi D [(h0, .inr (5, [.ref h1, .ref h2, .ref h3, .ref h4, .int tcp, .int tkd, .int tsd, .int tlm, .int tfu, .int ttb, .int trb, .int tgr])), (h1, .inl (cI, 64, .inl tK)), (h2, .inl (cI, 64, .inl tV)), (h3, .inl (cI, 64, .inl tO)), (h4, .inl (cI, 64, .inl tW))] out A) args s 0 0 A) 0 0 0 [(0, .ref h0)] [] [(h0, .inr (5, [.ref h1, .ref h2, .ref h3, .ref h4, .int tcp, .int tkd, .int tsd, .int tlm, .int tfu, .int ttb, .int trb, .int tgr])), (h1, .inl (cI, 64, .inl tK)), (h2, .inl (cI, 64, .inl tV)), (h3, .inl (cI, 64, .inl tO)), (h4, .inl (cI, 64, .inl tW))] := by
  unfold fX1_largestOfHalves at hf
  refine g_aload_n C0 dX1_largestOfHalves_0 rfl 0 rfl ?_
  refine g_getN C0 hinX5 0 rfl rfl 4 (by decide) q_65 rfl dX1_largestOfHalves_1 ?_
  refine g_istore_n C0 (lv' := [(1, .int tcp), (0, .ref h0)]) dX1_largestOfHalves_4 rfl (by decide) rfl ?_
  refine g_aload_n C0 dX1_largestOfHalves_5 rfl 1 rfl ?_
  refine g_iload_n C0 dX1_largestOfHalves_6 rfl 0 rfl ?_
  refine g_iconst C0 (v := (0 : Int32)) dX1_largestOfHalves_7 (by decide) ?_
  obtain ⟨r1, er1, hf⟩ := hl_bd hf
  try dsimp only at hf
  refine g_callSi C0 (ws' := [(h0, .inr (5, [.ref h1, .ref h2, .ref h3, .ref h4, .int tcp, .int tkd, .int tsd, .int tlm, .int tfu, .int ttb, .int trb, .int tgr])), (h1, .inl (cI, 64, .inl tK)), (h2, .inl (cI, 64, .inl tV)), (h3, .inl (cI, 64, .inl tO)), (h4, .inl (cI, 64, .inl tW))]) (mX1_usedBefore l D cB cC cI cO  h0 h1 h2 h3 h4 tcp tkd tsd tlm tfu ttb trb tgr tK tV tO tW tcp (0 : Int32) r1 er1) hmX1_usedBefore q_485 ⟨Nat.le_of_ble_eq_true rfl, Nat.le_of_ble_eq_true rfl⟩ ⟨Nat.le_of_ble_eq_true rfl, Nat.le_of_ble_eq_true rfl⟩ rfl rfl [0, 1, 2, 3, 4] rfl rfl rfl rfl rfl rfl (Nat.le_of_ble_eq_true rfl) dX1_largestOfHalves_8 ?_
  refine g_aload_n C0 dX1_largestOfHalves_11 rfl 1 rfl ?_
  refine g_iconst C0 (v := (0 : Int32)) dX1_largestOfHalves_12 (by decide) ?_
  refine g_iload_n C0 dX1_largestOfHalves_13 rfl 0 rfl ?_
  obtain ⟨r2, er2, hf⟩ := hl_bd hf
  try dsimp only at hf
  refine g_callSi C0 (ws' := [(h0, .inr (5, [.ref h1, .ref h2, .ref h3, .ref h4, .int tcp, .int tkd, .int tsd, .int tlm, .int tfu, .int ttb, .int trb, .int tgr])), (h1, .inl (cI, 64, .inl tK)), (h2, .inl (cI, 64, .inl tV)), (h3, .inl (cI, 64, .inl tO)), (h4, .inl (cI, 64, .inl tW))]) (mX1_usedFrom l D cB cC cI cO  h0 h1 h2 h3 h4 tcp tkd tsd tlm tfu ttb trb tgr tK tV tO tW (0 : Int32) tcp r2 er2) hmX1_usedFrom q_488 ⟨Nat.le_of_ble_eq_true rfl, Nat.le_of_ble_eq_true rfl⟩ ⟨Nat.le_of_ble_eq_true rfl, Nat.le_of_ble_eq_true rfl⟩ rfl rfl [0, 1, 2, 3, 4] rfl rfl rfl rfl rfl rfl (Nat.le_of_ble_eq_true rfl) dX1_largestOfHalves_14 ?_
  refine g_iadd C0 dX1_largestOfHalves_17 ?_
  refine g_istore_n C0 (lv' := [(2, .int (r1 + r2)), (1, .int tcp), (0, .ref h0)]) dX1_largestOfHalves_18 rfl (by decide) rfl ?_
  refine g_iload_n C0 dX1_largestOfHalves_19 rfl 0 rfl ?_
  refine g_aload_n C0 dX1_largestOfHalves_20 rfl 2 rfl ?_
  refine g_iconst C0 (v := (0 : Int32)) dX1_largestOfHalves_21 (by decide) ?_
  refine g_iload_n C0 dX1_largestOfHalves_22 rfl 1 rfl ?_
  refine g_iconst C0 (v := (0 : Int32)) dX1_largestOfHalves_23 (by decide) ?_
  obtain ⟨r3, er3, hf⟩ := hl_bd hf
  try dsimp only at hf
  refine g_callSi C0 (ws' := [(h0, .inr (5, [.ref h1, .ref h2, .ref h3, .ref h4, .int tcp, .int tkd, .int tsd, .int tlm, .int tfu, .int ttb, .int trb, .int tgr])), (h1, .inl (cI, 64, .inl tK)), (h2, .inl (cI, 64, .inl tV)), (h3, .inl (cI, 64, .inl tO)), (h4, .inl (cI, 64, .inl tW))]) (mX1_largestIn l D cB cC cI cO h0 h1 h2 h3 h4 12 tcp tkd tsd tlm tfu ttb trb tgr tK tV tO tW (0 : Int32) tcp (0 : Int32) r3 er3) hmX1_largestIn q_491 ⟨Nat.le_of_ble_eq_true rfl, Nat.le_of_ble_eq_true rfl⟩ ⟨Nat.le_of_ble_eq_true rfl, Nat.le_of_ble_eq_true rfl⟩ rfl rfl [0, 1, 2, 3, 4] rfl rfl rfl rfl rfl rfl (Nat.le_of_ble_eq_true rfl) dX1_largestOfHalves_24 ?_
  refine g_mmax C0 q_475 q_476 q_22 q_477 (Nat.le_of_ble_eq_true rfl) ⟨Nat.le_of_ble_eq_true rfl, Nat.le_of_ble_eq_true rfl⟩ (Nat.le_of_ble_eq_true rfl) dX1_largestOfHalves_27 ?_
  cases hf
  exact g_iret C0 rfl dX1_largestOfHalves_30 rfl rfl
theorem mX1_largestOfHalves (l : Launch) (D : va_G) (cB cC cI cO : ClassId)  (h0 h1 h2 h3 h4 : Nat) (tcp : Int32) (tkd : Int32) (tsd : Int32) (tlm : Int32) (tfu : Int32) (ttb : Int32) (trb : Int32) (tgr : Int32) (tK : Nat → Int32) (tV : Nat → Int32) (tO : Nat → Int32) (tW : Nat → Int32)  (out : Int32) (hf : fX1_largestOfHalves tcp tK = some out) : ∀ sz, Met l yX1_largestOfHalves (ws_ yX1_largestOfHalves cX1_largestOfHalves 3 (some .int)) rmX1_largestOfHalves (va_Pc [.ref h0] (hPre D (hTy cB cC cI cO) [(h0, .inr (5, [.ref h1, .ref h2, .ref h3, .ref h4, .int tcp, .int tkd, .int tsd, .int tlm, .int tfu, .int ttb, .int trb, .int tgr])), (h1, .inl (cI, 64, .inl tK)), (h2, .inl (cI, 64, .inl tV)), (h3, .inl (cI, 64, .inl tO)), (h4, .inl (cI, 64, .inl tW))] sz)) (hQi D [(h0, .inr (5, [.ref h1, .ref h2, .ref h3, .ref h4, .int tcp, .int tkd, .int tsd, .int tlm, .int tfu, .int ttb, .int trb, .int tgr])), (h1, .inl (cI, 64, .inl tK)), (h2, .inl (cI, 64, .inl tV)), (h3, .inl (cI, 64, .inl tO)), (h4, .inl (cI, 64, .inl tW))] out (va_A [(h0, .inr (5, [.ref h1, .ref h2, .ref h3, .ref h4, .int tcp, .int tkd, .int tsd, .int tlm, .int tfu, .int ttb, .int trb, .int tgr])), (h1, .inl (cI, 64, .inl tK)), (h2, .inl (cI, 64, .inl tV)), (h3, .inl (cI, 64, .inl tO)), (h4, .inl (cI, 64, .inl tW))] sz)) 0 0 (va_A [(h0, .inr (5, [.ref h1, .ref h2, .ref h3, .ref h4, .int tcp, .int tkd, .int tsd, .int tlm, .int tfu, .int ttb, .int trb, .int tgr])), (h1, .inl (cI, 64, .inl tK)), (h2, .inl (cI, 64, .inl tV)), (h3, .inl (cI, 64, .inl tO)), (h4, .inl (cI, 64, .inl tW))] sz) :=
  g_met (Qf := fun A => hQi D [(h0, .inr (5, [.ref h1, .ref h2, .ref h3, .ref h4, .int tcp, .int tkd, .int tsd, .int tlm, .int tfu, .int ttb, .int trb, .int tgr])), (h1, .inl (cI, 64, .inl tK)), (h2, .inl (cI, 64, .inl tV)), (h3, .inl (cI, 64, .inl tO)), (h4, .inl (cI, 64, .inl tW))] out A) (by decide +kernel) (Nat.le_of_ble_eq_true rfl) rfl (fun C0 => bX1_largestOfHalves C0 h0 h1 h2 h3 h4 out tcp tkd tsd tlm tfu ttb trb tgr tK tV tO tW  hf)
abbrev rmX3_empty : Room := { frames := 0, cells := 0, slots := 0, locals := 0 }
theorem hmX3_empty : hMV yX3_empty cX3_empty 1 none 0 := ⟨q_646, q_17, q_644, q_645, by decide, by decide, by decide +kernel⟩
theorem dX3_empty_0 : decode cX3_empty 0 = .ok (.aload_n 0, 1) := by decide +kernel
theorem dX3_empty_1 : decode cX3_empty 1 = .ok (.iconst 0, 1) := by decide +kernel
theorem dX3_empty_2 : decode cX3_empty 2 = .ok (.putfield 15, 3) := by decide +kernel
theorem dX3_empty_5 : decode cX3_empty 5 = .ok (.return_, 1) := by decide +kernel
set_option maxHeartbeats 4000000 in
set_option maxRecDepth 100000 in
theorem bX3_empty {p : Program} {l : Launch} {e : Env} {s : State} {m : MethodId} {args : Array Value} {below : List Frame} {meth : Method} {c : Code} {D : va_G} {cB cC cI cO : ClassId} {A : Nat → Prop} (C0 : gC RX3 cX3_empty 1 none p s m args meth c D (hTy cB cC cI cO) A) (l0 l1 : Nat) (out : Int32) (ln : Int32) (lS : Nat → Int32)  (hf : fX3_empty ln = some out) : gG p l e rmX3_empty s m args below meth c D A 1 (MQ below (hQv D [(l0, .inr (3, [.ref l1, .int out])), (l1, .inl (cC, 640, .inl lS))] A) args s 0 0 A) 0 0 0 [(0, .ref l0)] [] [(l0, .inr (3, [.ref l1, .int ln])), (l1, .inl (cC, 640, .inl lS))] := by
  unfold fX3_empty at hf
  refine g_aload_n C0 dX3_empty_0 rfl 0 rfl ?_
  refine g_iconst C0 (v := (0 : Int32)) dX3_empty_1 (by decide) ?_
  refine g_put C0 (ws' := [(l0, .inr (3, [.ref l1, .int (0 : Int32)])), (l1, .inl (cC, 640, .inl lS))]) hinX3 0 rfl rfl 1 (by decide) q_159 tyX3_ok nmX3 rfl rfl rfl (Nat.le_of_ble_eq_true rfl) rfl dX3_empty_2 ?_
  cases hf
  exact g_vret C0 dX3_empty_5 rfl
theorem mX3_empty (l : Launch) (D : va_G) (cB cC cI cO : ClassId)  (l0 l1 : Nat) (ln : Int32) (lS : Nat → Int32)  (out : Int32) (hf : fX3_empty ln = some out) : ∀ sz, Met l yX3_empty (ws_ yX3_empty cX3_empty 1 none) rmX3_empty (va_Pc [.ref l0] (hPre D (hTy cB cC cI cO) [(l0, .inr (3, [.ref l1, .int ln])), (l1, .inl (cC, 640, .inl lS))] sz)) (hQv D [(l0, .inr (3, [.ref l1, .int out])), (l1, .inl (cC, 640, .inl lS))] (va_A [(l0, .inr (3, [.ref l1, .int ln])), (l1, .inl (cC, 640, .inl lS))] sz)) 0 0 (va_A [(l0, .inr (3, [.ref l1, .int ln])), (l1, .inl (cC, 640, .inl lS))] sz) :=
  g_met (Qf := fun A => hQv D [(l0, .inr (3, [.ref l1, .int out])), (l1, .inl (cC, 640, .inl lS))] A) (by decide +kernel) (Nat.le_of_ble_eq_true rfl) rfl (fun C0 => bX3_empty C0 l0 l1 out ln lS  hf)
abbrev rmX3_add : Room := { frames := 0, cells := 0, slots := 0, locals := 0 }
theorem hmX3_add : hMV yX3_add cX3_add 2 none 1 := ⟨q_654, q_17, q_652, q_653, by decide, by decide, by decide +kernel⟩
theorem dX3_add_0 : decode cX3_add 0 = .ok (.aload_n 0, 1) := by decide +kernel
theorem dX3_add_1 : decode cX3_add 1 = .ok (.getfield 15, 3) := by decide +kernel
theorem dX3_add_4 : decode cX3_add 4 = .ok (.ifCond .lt 33, 3) := by decide +kernel
theorem dX3_add_7 : decode cX3_add 7 = .ok (.aload_n 0, 1) := by decide +kernel
theorem dX3_add_8 : decode cX3_add 8 = .ok (.getfield 15, 3) := by decide +kernel
theorem dX3_add_11 : decode cX3_add 11 = .ok (.sipush 640, 3) := by decide +kernel
theorem dX3_add_14 : decode cX3_add 14 = .ok (.if_icmp .ge 23, 3) := by decide +kernel
theorem dX3_add_17 : decode cX3_add 17 = .ok (.aload_n 0, 1) := by decide +kernel
theorem dX3_add_18 : decode cX3_add 18 = .ok (.getfield 11, 3) := by decide +kernel
theorem dX3_add_21 : decode cX3_add 21 = .ok (.aload_n 0, 1) := by decide +kernel
theorem dX3_add_22 : decode cX3_add 22 = .ok (.getfield 15, 3) := by decide +kernel
theorem dX3_add_25 : decode cX3_add 25 = .ok (.iload_n 1, 1) := by decide +kernel
theorem dX3_add_26 : decode cX3_add 26 = .ok (.castore, 1) := by decide +kernel
theorem dX3_add_27 : decode cX3_add 27 = .ok (.aload_n 0, 1) := by decide +kernel
theorem dX3_add_28 : decode cX3_add 28 = .ok (.dup, 1) := by decide +kernel
theorem dX3_add_29 : decode cX3_add 29 = .ok (.getfield 15, 3) := by decide +kernel
theorem dX3_add_32 : decode cX3_add 32 = .ok (.iconst 1, 1) := by decide +kernel
theorem dX3_add_33 : decode cX3_add 33 = .ok (.iadd, 1) := by decide +kernel
theorem dX3_add_34 : decode cX3_add 34 = .ok (.putfield 15, 3) := by decide +kernel
theorem dX3_add_37 : decode cX3_add 37 = .ok (.return_, 1) := by decide +kernel
set_option maxHeartbeats 4000000 in
set_option maxRecDepth 100000 in
theorem bX3_add {p : Program} {l : Launch} {e : Env} {s : State} {m : MethodId} {args : Array Value} {below : List Frame} {meth : Method} {c : Code} {D : va_G} {cB cC cI cO : ClassId} {A : Nat → Prop} (C0 : gC RX3 cX3_add 2 none p s m args meth c D (hTy cB cC cI cO) A) (l0 l1 : Nat) (out : Int32 × (Nat → Int32)) (ln : Int32) (lS : Nat → Int32) (x0 : Int32) (hf : fX3_add ln lS x0 = some out) : gG p l e rmX3_add s m args below meth c D A 2 (MQ below (hQv D [(l0, .inr (3, [.ref l1, .int out.1])), (l1, .inl (cC, 640, .inl out.2))] A) args s 0 0 A) 0 0 0 [(0, .ref l0), (1, .int x0)] [] [(l0, .inr (3, [.ref l1, .int ln])), (l1, .inl (cC, 640, .inl lS))] := by
  unfold fX3_add at hf
  refine g_aload_n C0 dX3_add_0 rfl 0 rfl ?_
  refine g_get C0 hinX3 0 rfl rfl 1 (by decide) q_159 rfl dX3_add_1 ?_
  refine g_if_lt C0 (tgt := 37) dX3_add_4 (by decide) (fun c1 => ?_) (fun c1 => ?_)
  · rw [if_pos c1] at hf
    cases hf
    exact g_vret C0 dX3_add_37 rfl
  · rw [if_neg c1] at hf
    refine g_aload_n C0 dX3_add_7 rfl 0 rfl ?_
    refine g_get C0 hinX3 0 rfl rfl 1 (by decide) q_159 rfl dX3_add_8 ?_
    refine g_sipush C0 (v := (640 : Int32)) dX3_add_11 (by decide) ?_
    refine g_icmp_ge C0 (tgt := 37) dX3_add_14 (by decide) (fun c2 => ?_) (fun c2 => ?_)
    · rw [if_pos c2] at hf
      cases hf
      exact g_vret C0 dX3_add_37 rfl
    · rw [if_neg c2] at hf
      refine g_aload_n C0 dX3_add_17 rfl 0 rfl ?_
      refine g_get C0 hinX3 0 rfl rfl 0 (by decide) q_158 rfl dX3_add_18 ?_
      refine g_aload_n C0 dX3_add_21 rfl 0 rfl ?_
      refine g_get C0 hinX3 0 rfl rfl 1 (by decide) q_159 rfl dX3_add_22 ?_
      refine g_iload_n C0 dX3_add_25 rfl 1 rfl ?_
      obtain ⟨i3, hf⟩ := hl_ifS hf
      refine g_cast C0 (ws' := [(l0, .inr (3, [.ref l1, .int ln])), (l1, .inl (cC, 640, .inl (upd lS (ln.toNatClampNeg) (vp_nar .char x0))))]) 1 0 rfl rfl i3 rfl dX3_add_26 rfl ?_
      refine g_aload_n C0 dX3_add_27 rfl 0 rfl ?_
      refine g_dup C0 dX3_add_28 rfl ?_
      refine g_get C0 hinX3 0 rfl rfl 1 (by decide) q_159 rfl dX3_add_29 ?_
      refine g_iconst C0 (v := (1 : Int32)) dX3_add_32 (by decide) ?_
      refine g_iadd C0 dX3_add_33 ?_
      refine g_put C0 (ws' := [(l0, .inr (3, [.ref l1, .int (ln + (1 : Int32))])), (l1, .inl (cC, 640, .inl (upd lS (ln.toNatClampNeg) (vp_nar .char x0))))]) hinX3 0 rfl rfl 1 (by decide) q_159 tyX3_ok nmX3 rfl rfl rfl (Nat.le_of_ble_eq_true rfl) rfl dX3_add_34 ?_
      cases hf
      exact g_vret C0 dX3_add_37 rfl
theorem mX3_add (l : Launch) (D : va_G) (cB cC cI cO : ClassId)  (l0 l1 : Nat) (ln : Int32) (lS : Nat → Int32) (x0 : Int32) (out : Int32 × (Nat → Int32)) (hf : fX3_add ln lS x0 = some out) : ∀ sz, Met l yX3_add (ws_ yX3_add cX3_add 2 none) rmX3_add (va_Pc [.ref l0, .int x0] (hPre D (hTy cB cC cI cO) [(l0, .inr (3, [.ref l1, .int ln])), (l1, .inl (cC, 640, .inl lS))] sz)) (hQv D [(l0, .inr (3, [.ref l1, .int out.1])), (l1, .inl (cC, 640, .inl out.2))] (va_A [(l0, .inr (3, [.ref l1, .int ln])), (l1, .inl (cC, 640, .inl lS))] sz)) 0 0 (va_A [(l0, .inr (3, [.ref l1, .int ln])), (l1, .inl (cC, 640, .inl lS))] sz) :=
  g_met (Qf := fun A => hQv D [(l0, .inr (3, [.ref l1, .int out.1])), (l1, .inl (cC, 640, .inl out.2))] A) (by decide +kernel) (Nat.le_of_ble_eq_true rfl) rfl (fun C0 => bX3_add C0 l0 l1 out ln lS x0 hf)
abbrev rmX3_addNumber : Room := { frames := 1, cells := 0, slots := 0, locals := 40 }
theorem hmX3_addNumber : hMV yX3_addNumber cX3_addNumber 4 none 1 := ⟨q_662, q_17, q_660, q_661, by decide, by decide, by decide +kernel⟩
theorem dX3_addNumber_0 : decode cX3_addNumber 0 = .ok (.iload_n 1, 1) := by decide +kernel
theorem dX3_addNumber_1 : decode cX3_addNumber 1 = .ok (.ifCond .ge 9, 3) := by decide +kernel
theorem dX3_addNumber_4 : decode cX3_addNumber 4 = .ok (.aload_n 0, 1) := by decide +kernel
theorem dX3_addNumber_5 : decode cX3_addNumber 5 = .ok (.bipush 45, 2) := by decide +kernel
theorem dX3_addNumber_7 : decode cX3_addNumber 7 = .ok (.invokevirtual 19, 3) := by decide +kernel
theorem dX3_addNumber_10 : decode cX3_addNumber 10 = .ok (.iload_n 1, 1) := by decide +kernel
theorem dX3_addNumber_11 : decode cX3_addNumber 11 = .ok (.invokestatic 23, 3) := by decide +kernel
theorem dX3_addNumber_14 : decode cX3_addNumber 14 = .ok (.istore_n 2, 1) := by decide +kernel
theorem dX3_addNumber_15 : decode cX3_addNumber 15 = .ok (.sipush 1000, 3) := by decide +kernel
theorem dX3_addNumber_18 : decode cX3_addNumber 18 = .ok (.istore_n 3, 1) := by decide +kernel
theorem dX3_addNumber_19 : decode cX3_addNumber 19 = .ok (.iload_n 3, 1) := by decide +kernel
theorem dX3_addNumber_20 : decode cX3_addNumber 20 = .ok (.ifCond .le 35, 3) := by decide +kernel
theorem dX3_addNumber_23 : decode cX3_addNumber 23 = .ok (.iload_n 2, 1) := by decide +kernel
theorem dX3_addNumber_24 : decode cX3_addNumber 24 = .ok (.iload_n 3, 1) := by decide +kernel
theorem dX3_addNumber_25 : decode cX3_addNumber 25 = .ok (.if_icmp .ge 8, 3) := by decide +kernel
theorem dX3_addNumber_28 : decode cX3_addNumber 28 = .ok (.iload_n 3, 1) := by decide +kernel
theorem dX3_addNumber_29 : decode cX3_addNumber 29 = .ok (.iconst 1, 1) := by decide +kernel
theorem dX3_addNumber_30 : decode cX3_addNumber 30 = .ok (.if_icmp .ne 17, 3) := by decide +kernel
theorem dX3_addNumber_33 : decode cX3_addNumber 33 = .ok (.aload_n 0, 1) := by decide +kernel
theorem dX3_addNumber_34 : decode cX3_addNumber 34 = .ok (.bipush 48, 2) := by decide +kernel
theorem dX3_addNumber_36 : decode cX3_addNumber 36 = .ok (.iload_n 2, 1) := by decide +kernel
theorem dX3_addNumber_37 : decode cX3_addNumber 37 = .ok (.iload_n 3, 1) := by decide +kernel
theorem dX3_addNumber_38 : decode cX3_addNumber 38 = .ok (.idiv, 1) := by decide +kernel
theorem dX3_addNumber_39 : decode cX3_addNumber 39 = .ok (.bipush 10, 2) := by decide +kernel
theorem dX3_addNumber_41 : decode cX3_addNumber 41 = .ok (.irem, 1) := by decide +kernel
theorem dX3_addNumber_42 : decode cX3_addNumber 42 = .ok (.iadd, 1) := by decide +kernel
theorem dX3_addNumber_43 : decode cX3_addNumber 43 = .ok (.i2c, 1) := by decide +kernel
theorem dX3_addNumber_44 : decode cX3_addNumber 44 = .ok (.invokevirtual 19, 3) := by decide +kernel
theorem dX3_addNumber_47 : decode cX3_addNumber 47 = .ok (.iload_n 3, 1) := by decide +kernel
theorem dX3_addNumber_48 : decode cX3_addNumber 48 = .ok (.bipush 10, 2) := by decide +kernel
theorem dX3_addNumber_50 : decode cX3_addNumber 50 = .ok (.idiv, 1) := by decide +kernel
theorem dX3_addNumber_51 : decode cX3_addNumber 51 = .ok (.istore_n 3, 1) := by decide +kernel
theorem dX3_addNumber_52 : decode cX3_addNumber 52 = .ok (.goto (-33), 3) := by decide +kernel
theorem dX3_addNumber_55 : decode cX3_addNumber 55 = .ok (.return_, 1) := by decide +kernel
set_option maxHeartbeats 4000000 in
set_option maxRecDepth 100000 in
theorem bX3_addNumber_47 {p : Program} {l : Launch} {e : Env} {s : State} {m : MethodId} {args : Array Value} {below : List Frame} {meth : Method} {c : Code} {D : va_G} {cB cC cI cO : ClassId} {A : Nat → Prop} (C0 : gC RX3 cX3_addNumber 4 none p s m args meth c D (hTy cB cC cI cO) A) (l0 l1 : Nat) (out : Int32 × (Nat → Int32))  (rec19 : Int32 → (Nat → Int32) → Int32 → Int32 → Option (Int32 × (Nat → Int32))) (hrec19 : ∀ (ln : Int32) (lS : Nat → Int32) (v2 : Int32) (v3 : Int32), rec19 ln lS v2 v3 = some out → gG p l e rmX3_addNumber s m args below meth c D A 4 (MQ below (hQv D [(l0, .inr (3, [.ref l1, .int out.1])), (l1, .inl (cC, 640, .inl out.2))] A) args s 0 0 A) 0 0 19 [(0, .ref l0), (2, .int v2), (3, .int v3)] [] [(l0, .inr (3, [.ref l1, .int ln])), (l1, .inl (cC, 640, .inl lS))]) : ∀ (ln : Int32) (lS : Nat → Int32) (v2 : Int32) (v3 : Int32), fX3_addNumber_47 rec19 ln lS v2 v3 = some out → gG p l e rmX3_addNumber s m args below meth c D A 4 (MQ below (hQv D [(l0, .inr (3, [.ref l1, .int out.1])), (l1, .inl (cC, 640, .inl out.2))] A) args s 0 0 A) 0 0 47 [(0, .ref l0), (2, .int v2), (3, .int v3)] [] [(l0, .inr (3, [.ref l1, .int ln])), (l1, .inl (cC, 640, .inl lS))] := by
  intro ln lS v2 v3 hf
  unfold fX3_addNumber_47 at hf
  refine g_iload_n C0 dX3_addNumber_47 rfl 2 rfl ?_
  refine g_bipush C0 (v := (10 : Int32)) dX3_addNumber_48 (by decide) ?_
  refine g_idiv C0 dX3_addNumber_50 (by decide) ?_
  refine g_istore_n C0 (lv' := [(3, .int (v3 / (10 : Int32))), (0, .ref l0), (2, .int v2)]) dX3_addNumber_51 rfl (by decide) rfl ?_
  refine g_goto C0 (tgt := 19) dX3_addNumber_52 (by decide) ?_
  refine g_lv [1, 2, 0] (lv' := [(0, .ref l0), (2, .int v2), (3, .int (v3 / (10 : Int32)))]) rfl ?_
  exact hrec19 ln lS v2 (v3 / (10 : Int32)) hf
set_option maxHeartbeats 4000000 in
set_option maxRecDepth 100000 in
theorem bX3_addNumber_33 {p : Program} {l : Launch} {e : Env} {s : State} {m : MethodId} {args : Array Value} {below : List Frame} {meth : Method} {c : Code} {D : va_G} {cB cC cI cO : ClassId} {A : Nat → Prop} (C0 : gC RX3 cX3_addNumber 4 none p s m args meth c D (hTy cB cC cI cO) A) (l0 l1 : Nat) (out : Int32 × (Nat → Int32))  (rec19 : Int32 → (Nat → Int32) → Int32 → Int32 → Option (Int32 × (Nat → Int32))) (hrec19 : ∀ (ln : Int32) (lS : Nat → Int32) (v2 : Int32) (v3 : Int32), rec19 ln lS v2 v3 = some out → gG p l e rmX3_addNumber s m args below meth c D A 4 (MQ below (hQv D [(l0, .inr (3, [.ref l1, .int out.1])), (l1, .inl (cC, 640, .inl out.2))] A) args s 0 0 A) 0 0 19 [(0, .ref l0), (2, .int v2), (3, .int v3)] [] [(l0, .inr (3, [.ref l1, .int ln])), (l1, .inl (cC, 640, .inl lS))]) : ∀ (ln : Int32) (lS : Nat → Int32) (v2 : Int32) (v3 : Int32), fX3_addNumber_33 rec19 ln lS v2 v3 = some out → gG p l e rmX3_addNumber s m args below meth c D A 4 (MQ below (hQv D [(l0, .inr (3, [.ref l1, .int out.1])), (l1, .inl (cC, 640, .inl out.2))] A) args s 0 0 A) 0 0 33 [(0, .ref l0), (2, .int v2), (3, .int v3)] [] [(l0, .inr (3, [.ref l1, .int ln])), (l1, .inl (cC, 640, .inl lS))] := by
  intro ln lS v2 v3 hf
  unfold fX3_addNumber_33 at hf
  refine g_aload_n C0 dX3_addNumber_33 rfl 0 rfl ?_
  refine g_bipush C0 (v := (48 : Int32)) dX3_addNumber_34 (by decide) ?_
  refine g_iload_n C0 dX3_addNumber_36 rfl 1 rfl ?_
  refine g_iload_n C0 dX3_addNumber_37 rfl 2 rfl ?_
  obtain ⟨z6, hf⟩ := hl_ifN hf
  refine g_idiv C0 dX3_addNumber_38 z6 ?_
  refine g_bipush C0 (v := (10 : Int32)) dX3_addNumber_39 (by decide) ?_
  refine g_irem C0 dX3_addNumber_41 (by decide) ?_
  refine g_iadd C0 dX3_addNumber_42 ?_
  refine g_i2c C0 dX3_addNumber_43 ?_
  obtain ⟨r7, er7, hf⟩ := hl_bd hf
  try dsimp only at hf
  refine g_callVv C0 (ws' := [(l0, .inr (3, [.ref l1, .int r7.1])), (l1, .inl (cC, 640, .inl r7.2))]) (mX3_add l D cB cC cI cO  l0 l1 ln lS (hl_c ((48 : Int32) + (hl_rem (v2 / v3) (10 : Int32)))) r7 er7) hmX3_add q_663 ⟨Nat.le_of_ble_eq_true rfl, Nat.le_of_ble_eq_true rfl⟩ ⟨Nat.le_of_ble_eq_true rfl, Nat.le_of_ble_eq_true rfl⟩ rfl rfl [0, 1] rfl rfl rfl rfl rfl 0 rfl rfl rfl (Nat.le_of_ble_eq_true rfl) dX3_addNumber_44 ?_
  refine g_lv [0, 1, 2] (lv' := [(0, .ref l0), (2, .int v2), (3, .int v3)]) rfl ?_
  exact bX3_addNumber_47 C0 l0 l1 out  rec19 hrec19  r7.1 r7.2 v2 v3 hf
set_option maxHeartbeats 4000000 in
set_option maxRecDepth 100000 in
theorem bX3_addNumber_19 {p : Program} {l : Launch} {e : Env} {s : State} {m : MethodId} {args : Array Value} {below : List Frame} {meth : Method} {c : Code} {D : va_G} {cB cC cI cO : ClassId} {A : Nat → Prop} (C0 : gC RX3 cX3_addNumber 4 none p s m args meth c D (hTy cB cC cI cO) A) (l0 l1 : Nat) (out : Int32 × (Nat → Int32))    : ∀ (n : Nat) (ln : Int32) (lS : Nat → Int32) (v2 : Int32) (v3 : Int32), fX3_addNumber_19 n ln lS v2 v3 = some out → gG p l e rmX3_addNumber s m args below meth c D A 4 (MQ below (hQv D [(l0, .inr (3, [.ref l1, .int out.1])), (l1, .inl (cC, 640, .inl out.2))] A) args s 0 0 A) 0 0 19 [(0, .ref l0), (2, .int v2), (3, .int v3)] [] [(l0, .inr (3, [.ref l1, .int ln])), (l1, .inl (cC, 640, .inl lS))] := by
  intro n
  induction n with
  | zero => intro ln lS v2 v3 hf; rw [fX3_addNumber_19] at hf; cases hf
  | succ n ih =>
    intro ln lS v2 v3 hf
    rw [fX3_addNumber_19] at hf
    refine g_iload_n C0 dX3_addNumber_19 rfl 2 rfl ?_
    refine g_if_le C0 (tgt := 55) dX3_addNumber_20 (by decide) (fun c3 => ?_) (fun c3 => ?_)
    · rw [if_pos c3] at hf
      cases hf
      exact g_vret C0 dX3_addNumber_55 rfl
    · rw [if_neg c3] at hf
      refine g_iload_n C0 dX3_addNumber_23 rfl 1 rfl ?_
      refine g_iload_n C0 dX3_addNumber_24 rfl 2 rfl ?_
      refine g_icmp_ge C0 (tgt := 33) dX3_addNumber_25 (by decide) (fun c4 => ?_) (fun c4 => ?_)
      · rw [if_pos c4] at hf
        refine g_lv [0, 1, 2] (lv' := [(0, .ref l0), (2, .int v2), (3, .int v3)]) rfl ?_
        exact bX3_addNumber_33 C0 l0 l1 out  (fX3_addNumber_19 n) ih  ln lS v2 v3 hf
      · rw [if_neg c4] at hf
        refine g_iload_n C0 dX3_addNumber_28 rfl 2 rfl ?_
        refine g_iconst C0 (v := (1 : Int32)) dX3_addNumber_29 (by decide) ?_
        refine g_icmp_ne C0 (tgt := 47) dX3_addNumber_30 (by decide) (fun c5 => ?_) (fun c5 => ?_)
        · rw [if_neg c5] at hf
          refine g_lv [0, 1, 2] (lv' := [(0, .ref l0), (2, .int v2), (3, .int v3)]) rfl ?_
          exact bX3_addNumber_47 C0 l0 l1 out  (fX3_addNumber_19 n) ih  ln lS v2 v3 hf
        · rw [if_pos c5] at hf
          refine g_lv [0, 1, 2] (lv' := [(0, .ref l0), (2, .int v2), (3, .int v3)]) rfl ?_
          exact bX3_addNumber_33 C0 l0 l1 out  (fX3_addNumber_19 n) ih  ln lS v2 v3 hf
set_option maxHeartbeats 4000000 in
set_option maxRecDepth 100000 in
theorem bX3_addNumber_10 {p : Program} {l : Launch} {e : Env} {s : State} {m : MethodId} {args : Array Value} {below : List Frame} {meth : Method} {c : Code} {D : va_G} {cB cC cI cO : ClassId} {A : Nat → Prop} (C0 : gC RX3 cX3_addNumber 4 none p s m args meth c D (hTy cB cC cI cO) A) (l0 l1 : Nat) (out : Int32 × (Nat → Int32))    : ∀ (ln : Int32) (lS : Nat → Int32) (v1 : Int32), fX3_addNumber_10 ln lS v1 = some out → gG p l e rmX3_addNumber s m args below meth c D A 4 (MQ below (hQv D [(l0, .inr (3, [.ref l1, .int out.1])), (l1, .inl (cC, 640, .inl out.2))] A) args s 0 0 A) 0 0 10 [(0, .ref l0), (1, .int v1)] [] [(l0, .inr (3, [.ref l1, .int ln])), (l1, .inl (cC, 640, .inl lS))] := by
  intro ln lS v1 hf
  unfold fX3_addNumber_10 at hf
  refine g_iload_n C0 dX3_addNumber_10 rfl 1 rfl ?_
  refine g_mabs C0 q_664 q_665 q_22 q_666 (Nat.le_of_ble_eq_true rfl) ⟨Nat.le_of_ble_eq_true rfl, Nat.le_of_ble_eq_true rfl⟩ (Nat.le_of_ble_eq_true rfl) dX3_addNumber_11 ?_
  refine g_istore_n C0 (lv' := [(2, .int (if 0 ≤ v1 then v1 else 0 - v1)), (0, .ref l0), (1, .int v1)]) dX3_addNumber_14 rfl (by decide) rfl ?_
  refine g_sipush C0 (v := (1000 : Int32)) dX3_addNumber_15 (by decide) ?_
  refine g_istore_n C0 (lv' := [(3, .int (1000 : Int32)), (2, .int (if 0 ≤ v1 then v1 else 0 - v1)), (0, .ref l0), (1, .int v1)]) dX3_addNumber_18 rfl (by decide) rfl ?_
  refine g_lv [2, 1, 0] (lv' := [(0, .ref l0), (2, .int (if 0 ≤ v1 then v1 else 0 - v1)), (3, .int (1000 : Int32))]) rfl ?_
  exact bX3_addNumber_19 C0 l0 l1 out   1000 ln lS (if 0 ≤ v1 then v1 else 0 - v1) (1000 : Int32) hf
set_option maxHeartbeats 4000000 in
set_option maxRecDepth 100000 in
theorem bX3_addNumber {p : Program} {l : Launch} {e : Env} {s : State} {m : MethodId} {args : Array Value} {below : List Frame} {meth : Method} {c : Code} {D : va_G} {cB cC cI cO : ClassId} {A : Nat → Prop} (C0 : gC RX3 cX3_addNumber 4 none p s m args meth c D (hTy cB cC cI cO) A) (l0 l1 : Nat) (out : Int32 × (Nat → Int32)) (ln : Int32) (lS : Nat → Int32) (x0 : Int32) (hf : fX3_addNumber ln lS x0 = some out) : gG p l e rmX3_addNumber s m args below meth c D A 4 (MQ below (hQv D [(l0, .inr (3, [.ref l1, .int out.1])), (l1, .inl (cC, 640, .inl out.2))] A) args s 0 0 A) 0 0 0 [(0, .ref l0), (1, .int x0)] [] [(l0, .inr (3, [.ref l1, .int ln])), (l1, .inl (cC, 640, .inl lS))] := by
  unfold fX3_addNumber at hf
  refine g_iload_n C0 dX3_addNumber_0 rfl 1 rfl ?_
  refine g_if_ge C0 (tgt := 10) dX3_addNumber_1 (by decide) (fun c1 => ?_) (fun c1 => ?_)
  · rw [if_pos c1] at hf
    refine g_lv [0, 1] (lv' := [(0, .ref l0), (1, .int x0)]) rfl ?_
    exact bX3_addNumber_10 C0 l0 l1 out   ln lS x0 hf
  · rw [if_neg c1] at hf
    refine g_aload_n C0 dX3_addNumber_4 rfl 0 rfl ?_
    refine g_bipush C0 (v := (45 : Int32)) dX3_addNumber_5 (by decide) ?_
    obtain ⟨r2, er2, hf⟩ := hl_bd hf
    try dsimp only at hf
    refine g_callVv C0 (ws' := [(l0, .inr (3, [.ref l1, .int r2.1])), (l1, .inl (cC, 640, .inl r2.2))]) (mX3_add l D cB cC cI cO  l0 l1 ln lS (45 : Int32) r2 er2) hmX3_add q_663 ⟨Nat.le_of_ble_eq_true rfl, Nat.le_of_ble_eq_true rfl⟩ ⟨Nat.le_of_ble_eq_true rfl, Nat.le_of_ble_eq_true rfl⟩ rfl rfl [0, 1] rfl rfl rfl rfl rfl 0 rfl rfl rfl (Nat.le_of_ble_eq_true rfl) dX3_addNumber_7 ?_
    refine g_lv [0, 1] (lv' := [(0, .ref l0), (1, .int x0)]) rfl ?_
    exact bX3_addNumber_10 C0 l0 l1 out   r2.1 r2.2 x0 hf
theorem mX3_addNumber (l : Launch) (D : va_G) (cB cC cI cO : ClassId)  (l0 l1 : Nat) (ln : Int32) (lS : Nat → Int32) (x0 : Int32) (out : Int32 × (Nat → Int32)) (hf : fX3_addNumber ln lS x0 = some out) : ∀ sz, Met l yX3_addNumber (ws_ yX3_addNumber cX3_addNumber 4 none) rmX3_addNumber (va_Pc [.ref l0, .int x0] (hPre D (hTy cB cC cI cO) [(l0, .inr (3, [.ref l1, .int ln])), (l1, .inl (cC, 640, .inl lS))] sz)) (hQv D [(l0, .inr (3, [.ref l1, .int out.1])), (l1, .inl (cC, 640, .inl out.2))] (va_A [(l0, .inr (3, [.ref l1, .int ln])), (l1, .inl (cC, 640, .inl lS))] sz)) 0 0 (va_A [(l0, .inr (3, [.ref l1, .int ln])), (l1, .inl (cC, 640, .inl lS))] sz) :=
  g_met (Qf := fun A => hQv D [(l0, .inr (3, [.ref l1, .int out.1])), (l1, .inl (cC, 640, .inl out.2))] A) (by decide +kernel) (Nat.le_of_ble_eq_true rfl) rfl (fun C0 => bX3_addNumber C0 l0 l1 out ln lS x0 hf)
abbrev rmX3_signAt : Room := { frames := 0, cells := 0, slots := 0, locals := 0 }
theorem hmX3_signAt : hMV yX3_signAt cX3_signAt 2 (some .char) 1 := ⟨q_853, q_17, q_851, q_852, by decide, by decide, by decide +kernel⟩
theorem dX3_signAt_0 : decode cX3_signAt 0 = .ok (.iload_n 1, 1) := by decide +kernel
theorem dX3_signAt_1 : decode cX3_signAt 1 = .ok (.ifCond .lt 19, 3) := by decide +kernel
theorem dX3_signAt_4 : decode cX3_signAt 4 = .ok (.iload_n 1, 1) := by decide +kernel
theorem dX3_signAt_5 : decode cX3_signAt 5 = .ok (.sipush 640, 3) := by decide +kernel
theorem dX3_signAt_8 : decode cX3_signAt 8 = .ok (.if_icmp .ge 12, 3) := by decide +kernel
theorem dX3_signAt_11 : decode cX3_signAt 11 = .ok (.aload_n 0, 1) := by decide +kernel
theorem dX3_signAt_12 : decode cX3_signAt 12 = .ok (.getfield 11, 3) := by decide +kernel
theorem dX3_signAt_15 : decode cX3_signAt 15 = .ok (.iload_n 1, 1) := by decide +kernel
theorem dX3_signAt_16 : decode cX3_signAt 16 = .ok (.caload, 1) := by decide +kernel
theorem dX3_signAt_17 : decode cX3_signAt 17 = .ok (.goto 5, 3) := by decide +kernel
theorem dX3_signAt_20 : decode cX3_signAt 20 = .ok (.bipush 32, 2) := by decide +kernel
theorem dX3_signAt_22 : decode cX3_signAt 22 = .ok (.ireturn, 1) := by decide +kernel
set_option maxHeartbeats 4000000 in
set_option maxRecDepth 100000 in
theorem bX3_signAt {p : Program} {l : Launch} {e : Env} {s : State} {m : MethodId} {args : Array Value} {below : List Frame} {meth : Method} {c : Code} {D : va_G} {cB cC cI cO : ClassId} {A : Nat → Prop} (C0 : gC RX3 cX3_signAt 2 (some .char) p s m args meth c D (hTy cB cC cI cO) A) (l0 l1 : Nat) (out : Int32) (ln : Int32) (lS : Nat → Int32) (x0 : Int32) (hf : fX3_signAt lS x0 = some out) : gG p l e rmX3_signAt s m args below meth c D A 2 (MQ below (hQi D [(l0, .inr (3, [.ref l1, .int ln])), (l1, .inl (cC, 640, .inl lS))] out A) args s 0 0 A) 0 0 0 [(0, .ref l0), (1, .int x0)] [] [(l0, .inr (3, [.ref l1, .int ln])), (l1, .inl (cC, 640, .inl lS))] := by
  unfold fX3_signAt at hf
  refine g_iload_n C0 dX3_signAt_0 rfl 1 rfl ?_
  refine g_if_lt C0 (tgt := 20) dX3_signAt_1 (by decide) (fun c1 => ?_) (fun c1 => ?_)
  · rw [if_pos c1] at hf
    refine g_bipush C0 (v := (32 : Int32)) dX3_signAt_20 (by decide) ?_
    obtain ⟨n2, hf⟩ := hl_ifS hf
    cases hf
    exact g_iret C0 (of_decide_eq_true n2) dX3_signAt_22 rfl rfl
  · rw [if_neg c1] at hf
    refine g_iload_n C0 dX3_signAt_4 rfl 1 rfl ?_
    refine g_sipush C0 (v := (640 : Int32)) dX3_signAt_5 (by decide) ?_
    refine g_icmp_ge C0 (tgt := 20) dX3_signAt_8 (by decide) (fun c3 => ?_) (fun c3 => ?_)
    · rw [if_pos c3] at hf
      refine g_bipush C0 (v := (32 : Int32)) dX3_signAt_20 (by decide) ?_
      obtain ⟨n4, hf⟩ := hl_ifS hf
      cases hf
      exact g_iret C0 (of_decide_eq_true n4) dX3_signAt_22 rfl rfl
    · rw [if_neg c3] at hf
      refine g_aload_n C0 dX3_signAt_11 rfl 0 rfl ?_
      refine g_get C0 hinX3 0 rfl rfl 0 (by decide) q_158 rfl dX3_signAt_12 ?_
      refine g_iload_n C0 dX3_signAt_15 rfl 1 rfl ?_
      obtain ⟨i5, hf⟩ := hl_ifS hf
      refine g_cald C0 1 0 rfl rfl i5 rfl dX3_signAt_16 ?_
      refine g_goto C0 (tgt := 22) dX3_signAt_17 (by decide) ?_
      obtain ⟨n6, hf⟩ := hl_ifS hf
      cases hf
      exact g_iret C0 (of_decide_eq_true n6) dX3_signAt_22 rfl rfl
theorem mX3_signAt (l : Launch) (D : va_G) (cB cC cI cO : ClassId)  (l0 l1 : Nat) (ln : Int32) (lS : Nat → Int32) (x0 : Int32) (out : Int32) (hf : fX3_signAt lS x0 = some out) : ∀ sz, Met l yX3_signAt (ws_ yX3_signAt cX3_signAt 2 (some .char)) rmX3_signAt (va_Pc [.ref l0, .int x0] (hPre D (hTy cB cC cI cO) [(l0, .inr (3, [.ref l1, .int ln])), (l1, .inl (cC, 640, .inl lS))] sz)) (hQi D [(l0, .inr (3, [.ref l1, .int ln])), (l1, .inl (cC, 640, .inl lS))] out (va_A [(l0, .inr (3, [.ref l1, .int ln])), (l1, .inl (cC, 640, .inl lS))] sz)) 0 0 (va_A [(l0, .inr (3, [.ref l1, .int ln])), (l1, .inl (cC, 640, .inl lS))] sz) :=
  g_met (Qf := fun A => hQi D [(l0, .inr (3, [.ref l1, .int ln])), (l1, .inl (cC, 640, .inl lS))] out A) (by decide +kernel) (Nat.le_of_ble_eq_true rfl) rfl (fun C0 => bX3_signAt C0 l0 l1 out ln lS x0 hf)
abbrev rmX0_ofMean : Room := { frames := 0, cells := 0, slots := 0, locals := 0 }
theorem hmX0_ofMean : hMS yX0_ofMean cX0_ofMean 8 (some .long) 1 := ⟨q_524, q_39, q_523, by decide, by decide, by decide +kernel⟩
theorem dX0_ofMean_0 : decode cX0_ofMean 0 = .ok (.dload_n 0, 1) := by decide +kernel
theorem dX0_ofMean_1 : decode cX0_ofMean 1 = .ok (.dstore_n 2, 1) := by decide +kernel
theorem dX0_ofMean_2 : decode cX0_ofMean 2 = .ok (.ldc2_w 7, 3) := by decide +kernel
theorem dX0_ofMean_5 : decode cX0_ofMean 5 = .ok (.lstore 4, 2) := by decide +kernel
theorem dX0_ofMean_7 : decode cX0_ofMean 7 = .ok (.dload_n 2, 1) := by decide +kernel
theorem dX0_ofMean_8 : decode cX0_ofMean 8 = .ok (.ldc2_w 9, 3) := by decide +kernel
theorem dX0_ofMean_11 : decode cX0_ofMean 11 = .ok (.dcmp .l, 1) := by decide +kernel
theorem dX0_ofMean_12 : decode cX0_ofMean 12 = .ok (.ifCond .lt 27, 3) := by decide +kernel
theorem dX0_ofMean_15 : decode cX0_ofMean 15 = .ok (.lload 4, 2) := by decide +kernel
theorem dX0_ofMean_17 : decode cX0_ofMean 17 = .ok (.ldc2_w 11, 3) := by decide +kernel
theorem dX0_ofMean_20 : decode cX0_ofMean 20 = .ok (.lcmp, 1) := by decide +kernel
theorem dX0_ofMean_21 : decode cX0_ofMean 21 = .ok (.ifCond .ge 18, 3) := by decide +kernel
theorem dX0_ofMean_24 : decode cX0_ofMean 24 = .ok (.dload_n 2, 1) := by decide +kernel
theorem dX0_ofMean_25 : decode cX0_ofMean 25 = .ok (.ldc2_w 9, 3) := by decide +kernel
theorem dX0_ofMean_28 : decode cX0_ofMean 28 = .ok (.ddiv, 1) := by decide +kernel
theorem dX0_ofMean_29 : decode cX0_ofMean 29 = .ok (.dstore_n 2, 1) := by decide +kernel
theorem dX0_ofMean_30 : decode cX0_ofMean 30 = .ok (.lload 4, 2) := by decide +kernel
theorem dX0_ofMean_32 : decode cX0_ofMean 32 = .ok (.lconst 1, 1) := by decide +kernel
theorem dX0_ofMean_33 : decode cX0_ofMean 33 = .ok (.ladd, 1) := by decide +kernel
theorem dX0_ofMean_34 : decode cX0_ofMean 34 = .ok (.lstore 4, 2) := by decide +kernel
theorem dX0_ofMean_36 : decode cX0_ofMean 36 = .ok (.goto (-29), 3) := by decide +kernel
theorem dX0_ofMean_39 : decode cX0_ofMean 39 = .ok (.dload_n 2, 1) := by decide +kernel
theorem dX0_ofMean_40 : decode cX0_ofMean 40 = .ok (.dconst 1, 1) := by decide +kernel
theorem dX0_ofMean_41 : decode cX0_ofMean 41 = .ok (.dsub, 1) := by decide +kernel
theorem dX0_ofMean_42 : decode cX0_ofMean 42 = .ok (.ldc2_w 13, 3) := by decide +kernel
theorem dX0_ofMean_45 : decode cX0_ofMean 45 = .ok (.dmul, 1) := by decide +kernel
theorem dX0_ofMean_46 : decode cX0_ofMean 46 = .ok (.d2l, 1) := by decide +kernel
theorem dX0_ofMean_47 : decode cX0_ofMean 47 = .ok (.lstore 6, 2) := by decide +kernel
theorem dX0_ofMean_49 : decode cX0_ofMean 49 = .ok (.lload 4, 2) := by decide +kernel
theorem dX0_ofMean_51 : decode cX0_ofMean 51 = .ok (.bipush 52, 2) := by decide +kernel
theorem dX0_ofMean_53 : decode cX0_ofMean 53 = .ok (.lshl, 1) := by decide +kernel
theorem dX0_ofMean_54 : decode cX0_ofMean 54 = .ok (.lload 6, 2) := by decide +kernel
theorem dX0_ofMean_56 : decode cX0_ofMean 56 = .ok (.lor, 1) := by decide +kernel
theorem dX0_ofMean_57 : decode cX0_ofMean 57 = .ok (.lreturn, 1) := by decide +kernel
set_option maxHeartbeats 4000000 in
set_option maxRecDepth 100000 in
theorem bX0_ofMean_39 {p : Program} {l : Launch} {e : Env} {s : State} {m : MethodId} {args : Array Value} {below : List Frame} {meth : Method} {c : Code} {D : va_G} {cB cC cI cO : ClassId} {A : Nat → Prop} (C0 : gC RX0 cX0_ofMean 8 (some .long) p s m args meth c D (hTy cB cC cI cO) A)  (out : Int64)    : ∀ (v2 : UInt64) (v4 : Int64), fX0_ofMean_39 v2 v4 = some out → gG p l e rmX0_ofMean s m args below meth c D A 8 (MQ below (hQl D [] out A) args s 0 0 A) 0 0 39 [(2, .double v2), (4, .long v4)] [] [] := by
  intro v2 v4 hf
  unfold fX0_ofMean_39 at hf
  refine g_dload_n C0 dX0_ofMean_39 rfl 0 rfl ?_
  refine g_dconst1 C0 dX0_ofMean_40 ?_
  obtain ⟨n4, hf⟩ := hl_ifS hf
  refine g_dsub C0 dX0_ofMean_41 (hl_n64P n4) ?_
  refine g_ldc2d C0 dX0_ofMean_42 q_528 ?_
  obtain ⟨n5, hf⟩ := hl_ifS hf
  refine g_dmul C0 dX0_ofMean_45 (hl_n64P n5) ?_
  refine g_d2l C0 dX0_ofMean_46 ?_
  refine g_lstore C0 (lv' := [(6, .long (FP.d2l (FP.dmul (FP.dsub v2 FP.dconst1) (4841369599423283200 : UInt64)))), (2, .double v2), (4, .long v4)]) dX0_ofMean_47 (by decide) rfl ?_
  refine g_lload C0 dX0_ofMean_49 2 rfl ?_
  refine g_bipush C0 (v := (52 : Int32)) dX0_ofMean_51 (by decide) ?_
  refine g_lshl C0 dX0_ofMean_53 ?_
  refine g_lload C0 dX0_ofMean_54 0 rfl ?_
  refine g_lor C0 dX0_ofMean_56 ?_
  cases hf
  exact g_lret C0 dX0_ofMean_57 rfl rfl
set_option maxHeartbeats 4000000 in
set_option maxRecDepth 100000 in
theorem bX0_ofMean_7 {p : Program} {l : Launch} {e : Env} {s : State} {m : MethodId} {args : Array Value} {below : List Frame} {meth : Method} {c : Code} {D : va_G} {cB cC cI cO : ClassId} {A : Nat → Prop} (C0 : gC RX0 cX0_ofMean 8 (some .long) p s m args meth c D (hTy cB cC cI cO) A)  (out : Int64)    : ∀ (n : Nat) (v2 : UInt64) (v4 : Int64), fX0_ofMean_7 n v2 v4 = some out → gG p l e rmX0_ofMean s m args below meth c D A 8 (MQ below (hQl D [] out A) args s 0 0 A) 0 0 7 [(2, .double v2), (4, .long v4)] [] [] := by
  intro n
  induction n with
  | zero => intro v2 v4 hf; rw [fX0_ofMean_7] at hf; cases hf
  | succ n ih =>
    intro v2 v4 hf
    rw [fX0_ofMean_7] at hf
    refine g_dload_n C0 dX0_ofMean_7 rfl 0 rfl ?_
    refine g_ldc2d C0 dX0_ofMean_8 q_526 ?_
    refine g_dcmp C0 dX0_ofMean_11 ?_
    refine g_if_lt C0 (tgt := 39) dX0_ofMean_12 (by decide) (fun c1 => ?_) (fun c1 => ?_)
    · rw [if_pos c1] at hf
      refine g_lv [0, 1] (lv' := [(2, .double v2), (4, .long v4)]) rfl ?_
      exact bX0_ofMean_39 C0  out   v2 v4 hf
    · rw [if_neg c1] at hf
      refine g_lload C0 dX0_ofMean_15 1 rfl ?_
      refine g_ldc2l C0 dX0_ofMean_17 q_527 ?_
      refine g_lcmp C0 dX0_ofMean_20 ?_
      refine g_if_ge C0 (tgt := 39) dX0_ofMean_21 (by decide) (fun c2 => ?_) (fun c2 => ?_)
      · rw [if_pos c2] at hf
        refine g_lv [0, 1] (lv' := [(2, .double v2), (4, .long v4)]) rfl ?_
        exact bX0_ofMean_39 C0  out   v2 v4 hf
      · rw [if_neg c2] at hf
        refine g_dload_n C0 dX0_ofMean_24 rfl 0 rfl ?_
        refine g_ldc2d C0 dX0_ofMean_25 q_526 ?_
        obtain ⟨n3, hf⟩ := hl_ifS hf
        refine g_ddiv C0 dX0_ofMean_28 (hl_n64P n3) ?_
        refine g_dstore_n C0 (lv' := [(2, .double (FP.ddiv v2 (4611686018427387904 : UInt64))), (4, .long v4)]) dX0_ofMean_29 rfl (by decide) rfl ?_
        refine g_lload C0 dX0_ofMean_30 1 rfl ?_
        refine g_lconst C0 (v := (1 : Int64)) dX0_ofMean_32 (by decide) ?_
        refine g_ladd C0 dX0_ofMean_33 ?_
        refine g_lstore C0 (lv' := [(4, .long (v4 + (1 : Int64))), (2, .double (FP.ddiv v2 (4611686018427387904 : UInt64)))]) dX0_ofMean_34 (by decide) rfl ?_
        refine g_goto C0 (tgt := 7) dX0_ofMean_36 (by decide) ?_
        refine g_lv [1, 0] (lv' := [(2, .double (FP.ddiv v2 (4611686018427387904 : UInt64))), (4, .long (v4 + (1 : Int64)))]) rfl ?_
        exact ih (FP.ddiv v2 (4611686018427387904 : UInt64)) (v4 + (1 : Int64)) hf
set_option maxHeartbeats 4000000 in
set_option maxRecDepth 100000 in
theorem bX0_ofMean {p : Program} {l : Launch} {e : Env} {s : State} {m : MethodId} {args : Array Value} {below : List Frame} {meth : Method} {c : Code} {D : va_G} {cB cC cI cO : ClassId} {A : Nat → Prop} (C0 : gC RX0 cX0_ofMean 8 (some .long) p s m args meth c D (hTy cB cC cI cO) A)  (out : Int64)  (x0 : UInt64) (hf : fX0_ofMean x0 = some out) : gG p l e rmX0_ofMean s m args below meth c D A 8 (MQ below (hQl D [] out A) args s 0 0 A) 0 0 0 [(0, .double x0)] [] [] := by
  unfold fX0_ofMean at hf
  refine g_dload_n C0 dX0_ofMean_0 rfl 0 rfl ?_
  refine g_dstore_n C0 (lv' := [(2, .double x0), (0, .double x0)]) dX0_ofMean_1 rfl (by decide) rfl ?_
  refine g_ldc2l C0 dX0_ofMean_2 q_525 ?_
  refine g_lstore C0 (lv' := [(4, .long (1023 : Int64)), (2, .double x0), (0, .double x0)]) dX0_ofMean_5 (by decide) rfl ?_
  refine g_lv [1, 0] (lv' := [(2, .double x0), (4, .long (1023 : Int64))]) rfl ?_
  exact bX0_ofMean_7 C0  out   1000 x0 (1023 : Int64) hf
theorem mX0_ofMean (l : Launch) (D : va_G) (cB cC cI cO : ClassId)    (x0 : UInt64) (out : Int64) (hf : fX0_ofMean x0 = some out) : ∀ sz, Met l yX0_ofMean (ws_ yX0_ofMean cX0_ofMean 8 (some .long)) rmX0_ofMean (va_Pc [.double x0] (hPre D (hTy cB cC cI cO) [] sz)) (hQl D [] out (va_A [] sz)) 0 0 (va_A [] sz) :=
  g_met (Qf := fun A => hQl D [] out A) (by decide +kernel) (Nat.le_of_ble_eq_true rfl) rfl (fun C0 => bX0_ofMean C0  out  x0 hf)
abbrev rmX0_ofShare : Room := { frames := 0, cells := 0, slots := 0, locals := 0 }
theorem hmX0_ofShare : hMS yX0_ofShare cX0_ofShare 4 (some .int) 1 := ⟨q_543, q_39, q_542, by decide, by decide, by decide +kernel⟩
theorem dX0_ofShare_0 : decode cX0_ofShare 0 = .ok (.fload_n 0, 1) := by decide +kernel
theorem dX0_ofShare_1 : decode cX0_ofShare 1 = .ok (.fconst 0, 1) := by decide +kernel
theorem dX0_ofShare_2 : decode cX0_ofShare 2 = .ok (.fcmp .g, 1) := by decide +kernel
theorem dX0_ofShare_3 : decode cX0_ofShare 3 = .ok (.ifCond .gt 5, 3) := by decide +kernel
theorem dX0_ofShare_6 : decode cX0_ofShare 6 = .ok (.iconst 0, 1) := by decide +kernel
theorem dX0_ofShare_7 : decode cX0_ofShare 7 = .ok (.ireturn, 1) := by decide +kernel
theorem dX0_ofShare_8 : decode cX0_ofShare 8 = .ok (.fload_n 0, 1) := by decide +kernel
theorem dX0_ofShare_9 : decode cX0_ofShare 9 = .ok (.fstore_n 1, 1) := by decide +kernel
theorem dX0_ofShare_10 : decode cX0_ofShare 10 = .ok (.bipush 127, 2) := by decide +kernel
theorem dX0_ofShare_12 : decode cX0_ofShare 12 = .ok (.istore_n 2, 1) := by decide +kernel
theorem dX0_ofShare_13 : decode cX0_ofShare 13 = .ok (.fload_n 1, 1) := by decide +kernel
theorem dX0_ofShare_14 : decode cX0_ofShare 14 = .ok (.fconst 1, 1) := by decide +kernel
theorem dX0_ofShare_15 : decode cX0_ofShare 15 = .ok (.fcmp .g, 1) := by decide +kernel
theorem dX0_ofShare_16 : decode cX0_ofShare 16 = .ok (.ifCond .ge 18, 3) := by decide +kernel
theorem dX0_ofShare_19 : decode cX0_ofShare 19 = .ok (.iload_n 2, 1) := by decide +kernel
theorem dX0_ofShare_20 : decode cX0_ofShare 20 = .ok (.iconst 1, 1) := by decide +kernel
theorem dX0_ofShare_21 : decode cX0_ofShare 21 = .ok (.if_icmp .le 13, 3) := by decide +kernel
theorem dX0_ofShare_24 : decode cX0_ofShare 24 = .ok (.fload_n 1, 1) := by decide +kernel
theorem dX0_ofShare_25 : decode cX0_ofShare 25 = .ok (.fconst 2, 1) := by decide +kernel
theorem dX0_ofShare_26 : decode cX0_ofShare 26 = .ok (.fmul, 1) := by decide +kernel
theorem dX0_ofShare_27 : decode cX0_ofShare 27 = .ok (.fstore_n 1, 1) := by decide +kernel
theorem dX0_ofShare_28 : decode cX0_ofShare 28 = .ok (.iinc 2 (-1), 3) := by decide +kernel
theorem dX0_ofShare_31 : decode cX0_ofShare 31 = .ok (.goto (-18), 3) := by decide +kernel
theorem dX0_ofShare_34 : decode cX0_ofShare 34 = .ok (.fload_n 1, 1) := by decide +kernel
theorem dX0_ofShare_35 : decode cX0_ofShare 35 = .ok (.fconst 1, 1) := by decide +kernel
theorem dX0_ofShare_36 : decode cX0_ofShare 36 = .ok (.fsub, 1) := by decide +kernel
theorem dX0_ofShare_37 : decode cX0_ofShare 37 = .ok (.ldc 15, 2) := by decide +kernel
theorem dX0_ofShare_39 : decode cX0_ofShare 39 = .ok (.fmul, 1) := by decide +kernel
theorem dX0_ofShare_40 : decode cX0_ofShare 40 = .ok (.f2i, 1) := by decide +kernel
theorem dX0_ofShare_41 : decode cX0_ofShare 41 = .ok (.istore_n 3, 1) := by decide +kernel
theorem dX0_ofShare_42 : decode cX0_ofShare 42 = .ok (.iload_n 2, 1) := by decide +kernel
theorem dX0_ofShare_43 : decode cX0_ofShare 43 = .ok (.bipush 23, 2) := by decide +kernel
theorem dX0_ofShare_45 : decode cX0_ofShare 45 = .ok (.ishl, 1) := by decide +kernel
theorem dX0_ofShare_46 : decode cX0_ofShare 46 = .ok (.iload_n 3, 1) := by decide +kernel
theorem dX0_ofShare_47 : decode cX0_ofShare 47 = .ok (.ior, 1) := by decide +kernel
theorem dX0_ofShare_48 : decode cX0_ofShare 48 = .ok (.ireturn, 1) := by decide +kernel
set_option maxHeartbeats 4000000 in
set_option maxRecDepth 100000 in
theorem bX0_ofShare_34 {p : Program} {l : Launch} {e : Env} {s : State} {m : MethodId} {args : Array Value} {below : List Frame} {meth : Method} {c : Code} {D : va_G} {cB cC cI cO : ClassId} {A : Nat → Prop} (C0 : gC RX0 cX0_ofShare 4 (some .int) p s m args meth c D (hTy cB cC cI cO) A)  (out : Int32)    : ∀ (v1 : UInt32) (v2 : Int32), fX0_ofShare_34 v1 v2 = some out → gG p l e rmX0_ofShare s m args below meth c D A 4 (MQ below (hQi D [] out A) args s 0 0 A) 0 0 34 [(1, .float v1), (2, .int v2)] [] [] := by
  intro v1 v2 hf
  unfold fX0_ofShare_34 at hf
  refine g_fload_n C0 dX0_ofShare_34 rfl 0 rfl ?_
  refine g_fconst1 C0 dX0_ofShare_35 ?_
  obtain ⟨n5, hf⟩ := hl_ifS hf
  refine g_fsub C0 dX0_ofShare_36 (hl_n32P n5) ?_
  refine g_ldcf C0 dX0_ofShare_37 q_544 ?_
  obtain ⟨n6, hf⟩ := hl_ifS hf
  refine g_fmul C0 dX0_ofShare_39 (hl_n32P n6) ?_
  refine g_f2i C0 dX0_ofShare_40 ?_
  refine g_istore_n C0 (lv' := [(3, .int (FP.f2i (FP.fmul (FP.fsub v1 FP.fconst1) (1258291200 : UInt32)))), (1, .float v1), (2, .int v2)]) dX0_ofShare_41 rfl (by decide) rfl ?_
  refine g_iload_n C0 dX0_ofShare_42 rfl 2 rfl ?_
  refine g_bipush C0 (v := (23 : Int32)) dX0_ofShare_43 (by decide) ?_
  refine g_ishl C0 dX0_ofShare_45 ?_
  refine g_iload_n C0 dX0_ofShare_46 rfl 0 rfl ?_
  refine g_ior C0 dX0_ofShare_47 ?_
  cases hf
  exact g_iret C0 rfl dX0_ofShare_48 rfl rfl
set_option maxHeartbeats 4000000 in
set_option maxRecDepth 100000 in
theorem bX0_ofShare_13 {p : Program} {l : Launch} {e : Env} {s : State} {m : MethodId} {args : Array Value} {below : List Frame} {meth : Method} {c : Code} {D : va_G} {cB cC cI cO : ClassId} {A : Nat → Prop} (C0 : gC RX0 cX0_ofShare 4 (some .int) p s m args meth c D (hTy cB cC cI cO) A)  (out : Int32)    : ∀ (n : Nat) (v1 : UInt32) (v2 : Int32), fX0_ofShare_13 n v1 v2 = some out → gG p l e rmX0_ofShare s m args below meth c D A 4 (MQ below (hQi D [] out A) args s 0 0 A) 0 0 13 [(1, .float v1), (2, .int v2)] [] [] := by
  intro n
  induction n with
  | zero => intro v1 v2 hf; rw [fX0_ofShare_13] at hf; cases hf
  | succ n ih =>
    intro v1 v2 hf
    rw [fX0_ofShare_13] at hf
    refine g_fload_n C0 dX0_ofShare_13 rfl 0 rfl ?_
    refine g_fconst1 C0 dX0_ofShare_14 ?_
    refine g_fcmp C0 dX0_ofShare_15 ?_
    refine g_if_ge C0 (tgt := 34) dX0_ofShare_16 (by decide) (fun c2 => ?_) (fun c2 => ?_)
    · rw [if_pos c2] at hf
      refine g_lv [0, 1] (lv' := [(1, .float v1), (2, .int v2)]) rfl ?_
      exact bX0_ofShare_34 C0  out   v1 v2 hf
    · rw [if_neg c2] at hf
      refine g_iload_n C0 dX0_ofShare_19 rfl 1 rfl ?_
      refine g_iconst C0 (v := (1 : Int32)) dX0_ofShare_20 (by decide) ?_
      refine g_icmp_le C0 (tgt := 34) dX0_ofShare_21 (by decide) (fun c3 => ?_) (fun c3 => ?_)
      · rw [if_pos c3] at hf
        refine g_lv [0, 1] (lv' := [(1, .float v1), (2, .int v2)]) rfl ?_
        exact bX0_ofShare_34 C0  out   v1 v2 hf
      · rw [if_neg c3] at hf
        refine g_fload_n C0 dX0_ofShare_24 rfl 0 rfl ?_
        refine g_fconst2 C0 dX0_ofShare_25 ?_
        obtain ⟨n4, hf⟩ := hl_ifS hf
        refine g_fmul C0 dX0_ofShare_26 (hl_n32P n4) ?_
        refine g_fstore_n C0 (lv' := [(1, .float (FP.fmul v1 FP.fconst2)), (2, .int v2)]) dX0_ofShare_27 rfl (by decide) rfl ?_
        refine g_iinc C0 (lv' := [(2, .int (v2 + (-1 : Int32))), (1, .float (FP.fmul v1 FP.fconst2))]) dX0_ofShare_28 1 rfl rfl (by decide) rfl ?_
        refine g_goto C0 (tgt := 13) dX0_ofShare_31 (by decide) ?_
        refine g_lv [1, 0] (lv' := [(1, .float (FP.fmul v1 FP.fconst2)), (2, .int (v2 + (-1 : Int32)))]) rfl ?_
        exact ih (FP.fmul v1 FP.fconst2) (v2 + (-1 : Int32)) hf
set_option maxHeartbeats 4000000 in
set_option maxRecDepth 100000 in
theorem bX0_ofShare {p : Program} {l : Launch} {e : Env} {s : State} {m : MethodId} {args : Array Value} {below : List Frame} {meth : Method} {c : Code} {D : va_G} {cB cC cI cO : ClassId} {A : Nat → Prop} (C0 : gC RX0 cX0_ofShare 4 (some .int) p s m args meth c D (hTy cB cC cI cO) A)  (out : Int32)  (x0 : UInt32) (hf : fX0_ofShare x0 = some out) : gG p l e rmX0_ofShare s m args below meth c D A 4 (MQ below (hQi D [] out A) args s 0 0 A) 0 0 0 [(0, .float x0)] [] [] := by
  unfold fX0_ofShare at hf
  refine g_fload_n C0 dX0_ofShare_0 rfl 0 rfl ?_
  refine g_fconst0 C0 dX0_ofShare_1 ?_
  refine g_fcmp C0 dX0_ofShare_2 ?_
  refine g_if_gt C0 (tgt := 8) dX0_ofShare_3 (by decide) (fun c1 => ?_) (fun c1 => ?_)
  · rw [if_pos c1] at hf
    refine g_fload_n C0 dX0_ofShare_8 rfl 0 rfl ?_
    refine g_fstore_n C0 (lv' := [(1, .float x0), (0, .float x0)]) dX0_ofShare_9 rfl (by decide) rfl ?_
    refine g_bipush C0 (v := (127 : Int32)) dX0_ofShare_10 (by decide) ?_
    refine g_istore_n C0 (lv' := [(2, .int (127 : Int32)), (1, .float x0), (0, .float x0)]) dX0_ofShare_12 rfl (by decide) rfl ?_
    refine g_lv [1, 0] (lv' := [(1, .float x0), (2, .int (127 : Int32))]) rfl ?_
    exact bX0_ofShare_13 C0  out   1000 x0 (127 : Int32) hf
  · rw [if_neg c1] at hf
    refine g_iconst C0 (v := (0 : Int32)) dX0_ofShare_6 (by decide) ?_
    cases hf
    exact g_iret C0 rfl dX0_ofShare_7 rfl rfl
theorem mX0_ofShare (l : Launch) (D : va_G) (cB cC cI cO : ClassId)    (x0 : UInt32) (out : Int32) (hf : fX0_ofShare x0 = some out) : ∀ sz, Met l yX0_ofShare (ws_ yX0_ofShare cX0_ofShare 4 (some .int)) rmX0_ofShare (va_Pc [.float x0] (hPre D (hTy cB cC cI cO) [] sz)) (hQi D [] out (va_A [] sz)) 0 0 (va_A [] sz) :=
  g_met (Qf := fun A => hQi D [] out A) (by decide +kernel) (Nat.le_of_ble_eq_true rfl) rfl (fun C0 => bX0_ofShare C0  out  x0 hf)
abbrev rmX6_isValue : Room := { frames := 0, cells := 0, slots := 0, locals := 0 }
theorem hmX6_isValue : hMS yX6_isValue cX6_isValue 1 (some .boolean) 1 := ⟨q_774, q_12, q_773, by decide, by decide, by decide +kernel⟩
theorem dX6_isValue_0 : decode cX6_isValue 0 = .ok (.iload_n 0, 1) := by decide +kernel
theorem dX6_isValue_1 : decode cX6_isValue 1 = .ok (.sipush (-999), 3) := by decide +kernel
theorem dX6_isValue_4 : decode cX6_isValue 4 = .ok (.if_icmp .lt 14, 3) := by decide +kernel
theorem dX6_isValue_7 : decode cX6_isValue 7 = .ok (.iload_n 0, 1) := by decide +kernel
theorem dX6_isValue_8 : decode cX6_isValue 8 = .ok (.sipush 999, 3) := by decide +kernel
theorem dX6_isValue_11 : decode cX6_isValue 11 = .ok (.if_icmp .gt 7, 3) := by decide +kernel
theorem dX6_isValue_14 : decode cX6_isValue 14 = .ok (.iconst 1, 1) := by decide +kernel
theorem dX6_isValue_15 : decode cX6_isValue 15 = .ok (.goto 4, 3) := by decide +kernel
theorem dX6_isValue_18 : decode cX6_isValue 18 = .ok (.iconst 0, 1) := by decide +kernel
theorem dX6_isValue_19 : decode cX6_isValue 19 = .ok (.ireturn, 1) := by decide +kernel
set_option maxHeartbeats 4000000 in
set_option maxRecDepth 100000 in
theorem bX6_isValue {p : Program} {l : Launch} {e : Env} {s : State} {m : MethodId} {args : Array Value} {below : List Frame} {meth : Method} {c : Code} {D : va_G} {cB cC cI cO : ClassId} {A : Nat → Prop} (C0 : gC RX6 cX6_isValue 1 (some .boolean) p s m args meth c D (hTy cB cC cI cO) A)  (out : Int32)  (x0 : Int32) (hf : fX6_isValue x0 = some out) : gG p l e rmX6_isValue s m args below meth c D A 1 (MQ below (hQi D [] out A) args s 0 0 A) 0 0 0 [(0, .int x0)] [] [] := by
  unfold fX6_isValue at hf
  refine g_iload_n C0 dX6_isValue_0 rfl 0 rfl ?_
  refine g_sipush C0 (v := (-999 : Int32)) dX6_isValue_1 (by decide) ?_
  refine g_icmp_lt C0 (tgt := 18) dX6_isValue_4 (by decide) (fun c1 => ?_) (fun c1 => ?_)
  · rw [if_pos c1] at hf
    refine g_iconst C0 (v := (0 : Int32)) dX6_isValue_18 (by decide) ?_
    cases hf
    exact g_iret C0 rfl dX6_isValue_19 rfl rfl
  · rw [if_neg c1] at hf
    refine g_iload_n C0 dX6_isValue_7 rfl 0 rfl ?_
    refine g_sipush C0 (v := (999 : Int32)) dX6_isValue_8 (by decide) ?_
    refine g_icmp_gt C0 (tgt := 18) dX6_isValue_11 (by decide) (fun c2 => ?_) (fun c2 => ?_)
    · rw [if_pos c2] at hf
      refine g_iconst C0 (v := (0 : Int32)) dX6_isValue_18 (by decide) ?_
      cases hf
      exact g_iret C0 rfl dX6_isValue_19 rfl rfl
    · rw [if_neg c2] at hf
      refine g_iconst C0 (v := (1 : Int32)) dX6_isValue_14 (by decide) ?_
      refine g_goto C0 (tgt := 19) dX6_isValue_15 (by decide) ?_
      cases hf
      exact g_iret C0 rfl dX6_isValue_19 rfl rfl
theorem mX6_isValue (l : Launch) (D : va_G) (cB cC cI cO : ClassId)    (x0 : Int32) (out : Int32) (hf : fX6_isValue x0 = some out) : ∀ sz, Met l yX6_isValue (ws_ yX6_isValue cX6_isValue 1 (some .boolean)) rmX6_isValue (va_Pc [.int x0] (hPre D (hTy cB cC cI cO) [] sz)) (hQi D [] out (va_A [] sz)) 0 0 (va_A [] sz) :=
  g_met (Qf := fun A => hQi D [] out A) (by decide +kernel) (Nat.le_of_ble_eq_true rfl) rfl (fun C0 => bX6_isValue C0  out  x0 hf)
abbrev rmX6_isKind : Room := { frames := 0, cells := 0, slots := 0, locals := 0 }
theorem hmX6_isKind : hMS yX6_isKind cX6_isKind 1 (some .boolean) 1 := ⟨q_551, q_12, q_550, by decide, by decide, by decide +kernel⟩
theorem dX6_isKind_0 : decode cX6_isKind 0 = .ok (.iload_n 0, 1) := by decide +kernel
theorem dX6_isKind_1 : decode cX6_isKind 1 = .ok (.ifCond .lt 12, 3) := by decide +kernel
theorem dX6_isKind_4 : decode cX6_isKind 4 = .ok (.iload_n 0, 1) := by decide +kernel
theorem dX6_isKind_5 : decode cX6_isKind 5 = .ok (.iconst 3, 1) := by decide +kernel
theorem dX6_isKind_6 : decode cX6_isKind 6 = .ok (.if_icmp .ge 7, 3) := by decide +kernel
theorem dX6_isKind_9 : decode cX6_isKind 9 = .ok (.iconst 1, 1) := by decide +kernel
theorem dX6_isKind_10 : decode cX6_isKind 10 = .ok (.goto 4, 3) := by decide +kernel
theorem dX6_isKind_13 : decode cX6_isKind 13 = .ok (.iconst 0, 1) := by decide +kernel
theorem dX6_isKind_14 : decode cX6_isKind 14 = .ok (.ireturn, 1) := by decide +kernel
set_option maxHeartbeats 4000000 in
set_option maxRecDepth 100000 in
theorem bX6_isKind {p : Program} {l : Launch} {e : Env} {s : State} {m : MethodId} {args : Array Value} {below : List Frame} {meth : Method} {c : Code} {D : va_G} {cB cC cI cO : ClassId} {A : Nat → Prop} (C0 : gC RX6 cX6_isKind 1 (some .boolean) p s m args meth c D (hTy cB cC cI cO) A)  (out : Int32)  (x0 : Int32) (hf : fX6_isKind x0 = some out) : gG p l e rmX6_isKind s m args below meth c D A 1 (MQ below (hQi D [] out A) args s 0 0 A) 0 0 0 [(0, .int x0)] [] [] := by
  unfold fX6_isKind at hf
  refine g_iload_n C0 dX6_isKind_0 rfl 0 rfl ?_
  refine g_if_lt C0 (tgt := 13) dX6_isKind_1 (by decide) (fun c1 => ?_) (fun c1 => ?_)
  · rw [if_pos c1] at hf
    refine g_iconst C0 (v := (0 : Int32)) dX6_isKind_13 (by decide) ?_
    cases hf
    exact g_iret C0 rfl dX6_isKind_14 rfl rfl
  · rw [if_neg c1] at hf
    refine g_iload_n C0 dX6_isKind_4 rfl 0 rfl ?_
    refine g_iconst C0 (v := (3 : Int32)) dX6_isKind_5 (by decide) ?_
    refine g_icmp_ge C0 (tgt := 13) dX6_isKind_6 (by decide) (fun c2 => ?_) (fun c2 => ?_)
    · rw [if_pos c2] at hf
      refine g_iconst C0 (v := (0 : Int32)) dX6_isKind_13 (by decide) ?_
      cases hf
      exact g_iret C0 rfl dX6_isKind_14 rfl rfl
    · rw [if_neg c2] at hf
      refine g_iconst C0 (v := (1 : Int32)) dX6_isKind_9 (by decide) ?_
      refine g_goto C0 (tgt := 14) dX6_isKind_10 (by decide) ?_
      cases hf
      exact g_iret C0 rfl dX6_isKind_14 rfl rfl
theorem mX6_isKind (l : Launch) (D : va_G) (cB cC cI cO : ClassId)    (x0 : Int32) (out : Int32) (hf : fX6_isKind x0 = some out) : ∀ sz, Met l yX6_isKind (ws_ yX6_isKind cX6_isKind 1 (some .boolean)) rmX6_isKind (va_Pc [.int x0] (hPre D (hTy cB cC cI cO) [] sz)) (hQi D [] out (va_A [] sz)) 0 0 (va_A [] sz) :=
  g_met (Qf := fun A => hQi D [] out A) (by decide +kernel) (Nat.le_of_ble_eq_true rfl) rfl (fun C0 => bX6_isKind C0  out  x0 hf)
abbrev rmX6_isSeed : Room := { frames := 0, cells := 0, slots := 0, locals := 0 }
theorem hmX6_isSeed : hMS yX6_isSeed cX6_isSeed 1 (some .boolean) 1 := ⟨q_701, q_12, q_700, by decide, by decide, by decide +kernel⟩
theorem dX6_isSeed_0 : decode cX6_isSeed 0 = .ok (.iload_n 0, 1) := by decide +kernel
theorem dX6_isSeed_1 : decode cX6_isSeed 1 = .ok (.ifCond .lt 14, 3) := by decide +kernel
theorem dX6_isSeed_4 : decode cX6_isSeed 4 = .ok (.iload_n 0, 1) := by decide +kernel
theorem dX6_isSeed_5 : decode cX6_isSeed 5 = .ok (.sipush 999, 3) := by decide +kernel
theorem dX6_isSeed_8 : decode cX6_isSeed 8 = .ok (.if_icmp .gt 7, 3) := by decide +kernel
theorem dX6_isSeed_11 : decode cX6_isSeed 11 = .ok (.iconst 1, 1) := by decide +kernel
theorem dX6_isSeed_12 : decode cX6_isSeed 12 = .ok (.goto 4, 3) := by decide +kernel
theorem dX6_isSeed_15 : decode cX6_isSeed 15 = .ok (.iconst 0, 1) := by decide +kernel
theorem dX6_isSeed_16 : decode cX6_isSeed 16 = .ok (.ireturn, 1) := by decide +kernel
set_option maxHeartbeats 4000000 in
set_option maxRecDepth 100000 in
theorem bX6_isSeed {p : Program} {l : Launch} {e : Env} {s : State} {m : MethodId} {args : Array Value} {below : List Frame} {meth : Method} {c : Code} {D : va_G} {cB cC cI cO : ClassId} {A : Nat → Prop} (C0 : gC RX6 cX6_isSeed 1 (some .boolean) p s m args meth c D (hTy cB cC cI cO) A)  (out : Int32)  (x0 : Int32) (hf : fX6_isSeed x0 = some out) : gG p l e rmX6_isSeed s m args below meth c D A 1 (MQ below (hQi D [] out A) args s 0 0 A) 0 0 0 [(0, .int x0)] [] [] := by
  unfold fX6_isSeed at hf
  refine g_iload_n C0 dX6_isSeed_0 rfl 0 rfl ?_
  refine g_if_lt C0 (tgt := 15) dX6_isSeed_1 (by decide) (fun c1 => ?_) (fun c1 => ?_)
  · rw [if_pos c1] at hf
    refine g_iconst C0 (v := (0 : Int32)) dX6_isSeed_15 (by decide) ?_
    cases hf
    exact g_iret C0 rfl dX6_isSeed_16 rfl rfl
  · rw [if_neg c1] at hf
    refine g_iload_n C0 dX6_isSeed_4 rfl 0 rfl ?_
    refine g_sipush C0 (v := (999 : Int32)) dX6_isSeed_5 (by decide) ?_
    refine g_icmp_gt C0 (tgt := 15) dX6_isSeed_8 (by decide) (fun c2 => ?_) (fun c2 => ?_)
    · rw [if_pos c2] at hf
      refine g_iconst C0 (v := (0 : Int32)) dX6_isSeed_15 (by decide) ?_
      cases hf
      exact g_iret C0 rfl dX6_isSeed_16 rfl rfl
    · rw [if_neg c2] at hf
      refine g_iconst C0 (v := (1 : Int32)) dX6_isSeed_11 (by decide) ?_
      refine g_goto C0 (tgt := 16) dX6_isSeed_12 (by decide) ?_
      cases hf
      exact g_iret C0 rfl dX6_isSeed_16 rfl rfl
theorem mX6_isSeed (l : Launch) (D : va_G) (cB cC cI cO : ClassId)    (x0 : Int32) (out : Int32) (hf : fX6_isSeed x0 = some out) : ∀ sz, Met l yX6_isSeed (ws_ yX6_isSeed cX6_isSeed 1 (some .boolean)) rmX6_isSeed (va_Pc [.int x0] (hPre D (hTy cB cC cI cO) [] sz)) (hQi D [] out (va_A [] sz)) 0 0 (va_A [] sz) :=
  g_met (Qf := fun A => hQi D [] out A) (by decide +kernel) (Nat.le_of_ble_eq_true rfl) rfl (fun C0 => bX6_isSeed C0  out  x0 hf)
abbrev rmX6_isLimit : Room := { frames := 0, cells := 0, slots := 0, locals := 0 }
theorem hmX6_isLimit : hMS yX6_isLimit cX6_isLimit 1 (some .boolean) 1 := ⟨q_716, q_12, q_715, by decide, by decide, by decide +kernel⟩
theorem dX6_isLimit_0 : decode cX6_isLimit 0 = .ok (.iload_n 0, 1) := by decide +kernel
theorem dX6_isLimit_1 : decode cX6_isLimit 1 = .ok (.bipush 25, 2) := by decide +kernel
theorem dX6_isLimit_3 : decode cX6_isLimit 3 = .ok (.if_icmp .lt 13, 3) := by decide +kernel
theorem dX6_isLimit_6 : decode cX6_isLimit 6 = .ok (.iload_n 0, 1) := by decide +kernel
theorem dX6_isLimit_7 : decode cX6_isLimit 7 = .ok (.bipush 90, 2) := by decide +kernel
theorem dX6_isLimit_9 : decode cX6_isLimit 9 = .ok (.if_icmp .gt 7, 3) := by decide +kernel
theorem dX6_isLimit_12 : decode cX6_isLimit 12 = .ok (.iconst 1, 1) := by decide +kernel
theorem dX6_isLimit_13 : decode cX6_isLimit 13 = .ok (.goto 4, 3) := by decide +kernel
theorem dX6_isLimit_16 : decode cX6_isLimit 16 = .ok (.iconst 0, 1) := by decide +kernel
theorem dX6_isLimit_17 : decode cX6_isLimit 17 = .ok (.ireturn, 1) := by decide +kernel
set_option maxHeartbeats 4000000 in
set_option maxRecDepth 100000 in
theorem bX6_isLimit {p : Program} {l : Launch} {e : Env} {s : State} {m : MethodId} {args : Array Value} {below : List Frame} {meth : Method} {c : Code} {D : va_G} {cB cC cI cO : ClassId} {A : Nat → Prop} (C0 : gC RX6 cX6_isLimit 1 (some .boolean) p s m args meth c D (hTy cB cC cI cO) A)  (out : Int32)  (x0 : Int32) (hf : fX6_isLimit x0 = some out) : gG p l e rmX6_isLimit s m args below meth c D A 1 (MQ below (hQi D [] out A) args s 0 0 A) 0 0 0 [(0, .int x0)] [] [] := by
  unfold fX6_isLimit at hf
  refine g_iload_n C0 dX6_isLimit_0 rfl 0 rfl ?_
  refine g_bipush C0 (v := (25 : Int32)) dX6_isLimit_1 (by decide) ?_
  refine g_icmp_lt C0 (tgt := 16) dX6_isLimit_3 (by decide) (fun c1 => ?_) (fun c1 => ?_)
  · rw [if_pos c1] at hf
    refine g_iconst C0 (v := (0 : Int32)) dX6_isLimit_16 (by decide) ?_
    cases hf
    exact g_iret C0 rfl dX6_isLimit_17 rfl rfl
  · rw [if_neg c1] at hf
    refine g_iload_n C0 dX6_isLimit_6 rfl 0 rfl ?_
    refine g_bipush C0 (v := (90 : Int32)) dX6_isLimit_7 (by decide) ?_
    refine g_icmp_gt C0 (tgt := 16) dX6_isLimit_9 (by decide) (fun c2 => ?_) (fun c2 => ?_)
    · rw [if_pos c2] at hf
      refine g_iconst C0 (v := (0 : Int32)) dX6_isLimit_16 (by decide) ?_
      cases hf
      exact g_iret C0 rfl dX6_isLimit_17 rfl rfl
    · rw [if_neg c2] at hf
      refine g_iconst C0 (v := (1 : Int32)) dX6_isLimit_12 (by decide) ?_
      refine g_goto C0 (tgt := 17) dX6_isLimit_13 (by decide) ?_
      cases hf
      exact g_iret C0 rfl dX6_isLimit_17 rfl rfl
theorem mX6_isLimit (l : Launch) (D : va_G) (cB cC cI cO : ClassId)    (x0 : Int32) (out : Int32) (hf : fX6_isLimit x0 = some out) : ∀ sz, Met l yX6_isLimit (ws_ yX6_isLimit cX6_isLimit 1 (some .boolean)) rmX6_isLimit (va_Pc [.int x0] (hPre D (hTy cB cC cI cO) [] sz)) (hQi D [] out (va_A [] sz)) 0 0 (va_A [] sz) :=
  g_met (Qf := fun A => hQi D [] out A) (by decide +kernel) (Nat.le_of_ble_eq_true rfl) rfl (fun C0 => bX6_isLimit C0  out  x0 hf)
abbrev rmX6_isTrial : Room := { frames := 0, cells := 0, slots := 0, locals := 0 }
theorem hmX6_isTrial : hMS yX6_isTrial cX6_isTrial 2 (some .boolean) 2 := ⟨q_554, q_12, q_553, by decide, by decide, by decide +kernel⟩
theorem dX6_isTrial_0 : decode cX6_isTrial 0 = .ok (.iload_n 0, 1) := by decide +kernel
theorem dX6_isTrial_1 : decode cX6_isTrial 1 = .ok (.ifCond .lt 25, 3) := by decide +kernel
theorem dX6_isTrial_4 : decode cX6_isTrial 4 = .ok (.iload_n 0, 1) := by decide +kernel
theorem dX6_isTrial_5 : decode cX6_isTrial 5 = .ok (.sipush 10007, 3) := by decide +kernel
theorem dX6_isTrial_8 : decode cX6_isTrial 8 = .ok (.if_icmp .ge 18, 3) := by decide +kernel
theorem dX6_isTrial_11 : decode cX6_isTrial 11 = .ok (.iload_n 1, 1) := by decide +kernel
theorem dX6_isTrial_12 : decode cX6_isTrial 12 = .ok (.iconst 1, 1) := by decide +kernel
theorem dX6_isTrial_13 : decode cX6_isTrial 13 = .ok (.if_icmp .lt 13, 3) := by decide +kernel
theorem dX6_isTrial_16 : decode cX6_isTrial 16 = .ok (.iload_n 1, 1) := by decide +kernel
theorem dX6_isTrial_17 : decode cX6_isTrial 17 = .ok (.bipush 40, 2) := by decide +kernel
theorem dX6_isTrial_19 : decode cX6_isTrial 19 = .ok (.if_icmp .gt 7, 3) := by decide +kernel
theorem dX6_isTrial_22 : decode cX6_isTrial 22 = .ok (.iconst 1, 1) := by decide +kernel
theorem dX6_isTrial_23 : decode cX6_isTrial 23 = .ok (.goto 4, 3) := by decide +kernel
theorem dX6_isTrial_26 : decode cX6_isTrial 26 = .ok (.iconst 0, 1) := by decide +kernel
theorem dX6_isTrial_27 : decode cX6_isTrial 27 = .ok (.ireturn, 1) := by decide +kernel
set_option maxHeartbeats 4000000 in
set_option maxRecDepth 100000 in
theorem bX6_isTrial {p : Program} {l : Launch} {e : Env} {s : State} {m : MethodId} {args : Array Value} {below : List Frame} {meth : Method} {c : Code} {D : va_G} {cB cC cI cO : ClassId} {A : Nat → Prop} (C0 : gC RX6 cX6_isTrial 2 (some .boolean) p s m args meth c D (hTy cB cC cI cO) A)  (out : Int32)  (x0 : Int32) (x1 : Int32) (hf : fX6_isTrial x0 x1 = some out) : gG p l e rmX6_isTrial s m args below meth c D A 2 (MQ below (hQi D [] out A) args s 0 0 A) 0 0 0 [(0, .int x0), (1, .int x1)] [] [] := by
  unfold fX6_isTrial at hf
  refine g_iload_n C0 dX6_isTrial_0 rfl 0 rfl ?_
  refine g_if_lt C0 (tgt := 26) dX6_isTrial_1 (by decide) (fun c1 => ?_) (fun c1 => ?_)
  · rw [if_pos c1] at hf
    refine g_iconst C0 (v := (0 : Int32)) dX6_isTrial_26 (by decide) ?_
    cases hf
    exact g_iret C0 rfl dX6_isTrial_27 rfl rfl
  · rw [if_neg c1] at hf
    refine g_iload_n C0 dX6_isTrial_4 rfl 0 rfl ?_
    refine g_sipush C0 (v := (10007 : Int32)) dX6_isTrial_5 (by decide) ?_
    refine g_icmp_ge C0 (tgt := 26) dX6_isTrial_8 (by decide) (fun c2 => ?_) (fun c2 => ?_)
    · rw [if_pos c2] at hf
      refine g_iconst C0 (v := (0 : Int32)) dX6_isTrial_26 (by decide) ?_
      cases hf
      exact g_iret C0 rfl dX6_isTrial_27 rfl rfl
    · rw [if_neg c2] at hf
      refine g_iload_n C0 dX6_isTrial_11 rfl 1 rfl ?_
      refine g_iconst C0 (v := (1 : Int32)) dX6_isTrial_12 (by decide) ?_
      refine g_icmp_lt C0 (tgt := 26) dX6_isTrial_13 (by decide) (fun c3 => ?_) (fun c3 => ?_)
      · rw [if_pos c3] at hf
        refine g_iconst C0 (v := (0 : Int32)) dX6_isTrial_26 (by decide) ?_
        cases hf
        exact g_iret C0 rfl dX6_isTrial_27 rfl rfl
      · rw [if_neg c3] at hf
        refine g_iload_n C0 dX6_isTrial_16 rfl 1 rfl ?_
        refine g_bipush C0 (v := (40 : Int32)) dX6_isTrial_17 (by decide) ?_
        refine g_icmp_gt C0 (tgt := 26) dX6_isTrial_19 (by decide) (fun c4 => ?_) (fun c4 => ?_)
        · rw [if_pos c4] at hf
          refine g_iconst C0 (v := (0 : Int32)) dX6_isTrial_26 (by decide) ?_
          cases hf
          exact g_iret C0 rfl dX6_isTrial_27 rfl rfl
        · rw [if_neg c4] at hf
          refine g_iconst C0 (v := (1 : Int32)) dX6_isTrial_22 (by decide) ?_
          refine g_goto C0 (tgt := 27) dX6_isTrial_23 (by decide) ?_
          cases hf
          exact g_iret C0 rfl dX6_isTrial_27 rfl rfl
theorem mX6_isTrial (l : Launch) (D : va_G) (cB cC cI cO : ClassId)    (x0 : Int32) (x1 : Int32) (out : Int32) (hf : fX6_isTrial x0 x1 = some out) : ∀ sz, Met l yX6_isTrial (ws_ yX6_isTrial cX6_isTrial 2 (some .boolean)) rmX6_isTrial (va_Pc [.int x0, .int x1] (hPre D (hTy cB cC cI cO) [] sz)) (hQi D [] out (va_A [] sz)) 0 0 (va_A [] sz) :=
  g_met (Qf := fun A => hQi D [] out A) (by decide +kernel) (Nat.le_of_ble_eq_true rfl) rfl (fun C0 => bX6_isTrial C0  out  x0 x1 hf)
