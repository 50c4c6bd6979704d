/-! java/util/Arrays.fill([II)V: 15 instructions -/
def fJ7_fill_53178_5 (an : Nat) : Nat → (Nat → Int32) → Int32 → Int32 → Int32 → Option ((Nat → Int32))
  | 0, _, _, _, _ => none
  | n + 1, aF, v1, v2, v3 => if v3 ≤ v2 then (some (aF)) else (if hl_in v2 an = true then (fJ7_fill_53178_5 an n (upd aF (v2.toNatClampNeg) v1) v1 (v2 + (1 : Int32)) v3) else none)
def fJ7_fill_53178 (an : Nat) (aF : Nat → Int32) (x0 : Int32) : Option ((Nat → Int32)) := fJ7_fill_53178_5 an 1000 aF x0 (0 : Int32) (Int32.ofNat an)
/-! HashLab$Table.copyFrom(LHashLab$Table;)V: 49 instructions -/
def fX5_copyFrom  (tcp : Int32) (tkd : Int32) (tsd : Int32) (tlm : Int32) (tfu : Int32) (ttb : Int32) (trb : Int32) (tgr : Int32) (tK : Nat → Int32) (tV : Nat → Int32) (ocp : Int32) (okd : Int32) (osd : Int32) (olm : Int32) (ofu : Int32) (otb : Int32) (orb : Int32) (ogr : Int32) (oK : Nat → Int32) (oV : Nat → Int32) : Option (Int32 × Int32 × Int32 × Int32 × Int32 × Int32 × Int32 × Int32 × (Nat → Int32) × (Nat → Int32)) := some (ocp, okd, osd, olm, ofu, otb, orb, ogr, va_cpy oK tK 0 0 64, va_cpy oV tV 0 0 64)
/-! HashLab$Table.empty(I)V: 14 instructions -/
def fX5_empty  (tcp : Int32) (tfu : Int32) (ttb : Int32) (tK : Nat → Int32) (x0 : Int32) : Option (Int32 × Int32 × Int32 × (Nat → Int32)) := (fJ7_fill_53178 64 tK (-1 : Int32)).bind fun r1 => (some (x0, (0 : Int32), (0 : Int32), r1))
/-! HashLab$Table.beginTrial(III)V: 13 instructions -/
def fX5_beginTrial  (tcp : Int32) (tkd : Int32) (tsd : Int32) (tlm : Int32) (tfu : Int32) (ttb : Int32) (tK : Nat → Int32) (x0 : Int32) (x1 : Int32) (x2 : Int32) : Option (Int32 × Int32 × Int32 × Int32 × Int32 × Int32 × (Nat → Int32)) := (fX5_empty tcp tfu ttb tK (8 : Int32)).bind fun r1 => (some (r1.1, x0, x1, x2, r1.2.1, r1.2.2.1, r1.2.2.2))
/-! HashLab$Table.hasSlot(I)Z: 10 instructions -/
def fX5_hasSlot  (tcp : Int32) (x0 : Int32) : Option (Int32) := if x0 < 0 then (some ((0 : Int32))) else (if tcp ≤ x0 then (some ((0 : Int32))) else (some ((1 : Int32))))
/-! HashLab$Table.isInRows(I)Z: 9 instructions -/
def fX5_isInRows  (x0 : Int32) : Option (Int32) := if x0 < 0 then (some ((0 : Int32))) else (if (64 : Int32) ≤ x0 then (some ((0 : Int32))) else (some ((1 : Int32))))
/-! HashLab$Table.content(I)I: 10 instructions -/
def fX5_content  (tK : Nat → Int32) (x0 : Int32) : Option (Int32) := (fX5_isInRows x0).bind fun r1 => (if r1 = 0 then (some ((-1 : Int32))) else (if hl_in x0 64 = true then (some (tK x0.toNatClampNeg)) else none))
/-! HashLab$Table.valueOf(I)I: 10 instructions -/
def fX5_valueOf  (tV : Nat → Int32) (x0 : Int32) : Option (Int32) := (fX5_isInRows x0).bind fun r1 => (if r1 = 0 then (some ((0 : Int32))) else (if hl_in x0 64 = true then (some (tV x0.toNatClampNeg)) else none))
/-! HashLab$Table.isUsed(I)Z: 9 instructions -/
def fX5_isUsed  (tK : Nat → Int32) (x0 : Int32) : Option (Int32) := (fX5_content tK x0).bind fun r1 => (if r1 = (-1 : Int32) then (some ((0 : Int32))) else (some ((1 : Int32))))
/-! HashLab$Table.isFullSlot(I)Z: 8 instructions -/
def fX5_isFullSlot  (tK : Nat → Int32) (x0 : Int32) : Option (Int32) := (fX5_content tK x0).bind fun r1 => (if r1 < 0 then (some ((0 : Int32))) else (some ((1 : Int32))))
/-! HashLab$Table.hashOf(I)I: 11 instructions -/
def fX5_hashOf  (tsd : Int32) (x0 : Int32) : Option (Int32) := some (hl_rem (((40503 : Int32) * x0) + ((9973 : Int32) * tsd)) (65536 : Int32))
/-! HashLab$Table.strideOf(I)I: 24 instructions -/
def fX5_strideOf  (tcp : Int32) (tkd : Int32) (x0 : Int32) : Option (Int32) := if tkd = (2 : Int32) then (if (2 : Int32) ≤ tcp then (if tcp = 0 then none else if (tcp / (2 : Int32)) = 0 then none else some (((2 : Int32) * (hl_rem (x0 / tcp) (tcp / (2 : Int32)))) + (1 : Int32))) else (some ((1 : Int32)))) else (some ((1 : Int32)))
/-! HashLab$Table.wrap(I)I: 7 instructions -/
def fX5_wrap  (tcp : Int32) (x0 : Int32) : Option (Int32) := some (x0 &&& (tcp - (1 : Int32)))
/-! HashLab$Table.offsetAt(II)I: 16 instructions -/
def fX5_offsetAt  (tkd : Int32) (x0 : Int32) (x1 : Int32) : Option (Int32) := if tkd = (1 : Int32) then (some ((x0 * (x0 + (1 : Int32))) / (2 : Int32))) else (some (x0 * x1))
/-! HashLab$Table.slotInSequence(II)I: 17 instructions -/
def fX5_slotInSequence  (tcp : Int32) (tkd : Int32) (tsd : Int32) (x0 : Int32) (x1 : Int32) : Option (Int32) := (fX5_hashOf tsd x0).bind fun r1 => ((fX5_wrap tcp r1).bind fun r2 => ((fX5_strideOf tcp tkd r1).bind fun r3 => ((fX5_offsetAt tkd x1 r3).bind fun r4 => ((fX5_wrap tcp (r2 + r4)).bind fun r5 => (some (r5))))))
/-! HashLab$Table.searchLength(I)I: 28 instructions -/
def fX5_searchLength_2  : Nat → Int32 → Int32 → Int32 → (Nat → Int32) → Int32 → Int32 → Option (Int32)
  | 0, _, _, _, _, _, _ => none
  | n + 1, tcp, tkd, tsd, tK, v1, v2 => if tcp ≤ v2 then (some (tcp)) else ((fX5_slotInSequence tcp tkd tsd v1 v2).bind fun r2 => ((fX5_content tK r2).bind fun r3 => (if r3 = v1 then (some (v2 + (1 : Int32))) else (if r3 = (-1 : Int32) then (some (v2 + (1 : Int32))) else (fX5_searchLength_2 n tcp tkd tsd tK v1 (v2 + (1 : Int32)))))))
def fX5_searchLength  (tcp : Int32) (tkd : Int32) (tsd : Int32) (tK : Nat → Int32) (x0 : Int32) : Option (Int32) := fX5_searchLength_2 1000 tcp tkd tsd tK x0 (0 : Int32)
/-! HashLab.isKey(I)Z: 9 instructions -/
def fX6_isKey  (x0 : Int32) : Option (Int32) := if x0 < 0 then (some ((0 : Int32))) else (if (9999 : Int32) < x0 then (some ((0 : Int32))) else (some ((1 : Int32))))
/-! HashLab$Table.slotHolding(I)I: 23 instructions -/
def fX5_slotHolding  (tcp : Int32) (tkd : Int32) (tsd : Int32) (tK : Nat → Int32) (x0 : Int32) : Option (Int32) := (fX6_isKey x0).bind fun r1 => (if r1 = 0 then (some ((-1 : Int32))) else ((fX5_searchLength tcp tkd tsd tK x0).bind fun r3 => ((fX5_slotInSequence tcp tkd tsd x0 (r3 - (1 : Int32))).bind fun r4 => ((fX5_content tK r4).bind fun r5 => (if r5 = x0 then (some (r4)) else (some ((-1 : Int32))))))))
/-! HashLab$Table.distanceTo(II)I: 39 instructions -/
def fX5_distanceTo_29  : Nat → Int32 → Int32 → Int32 → Int32 → Int32 → Int32 → Option (Int32)
  | 0, _, _, _, _, _, _ => none
  | n + 1, tcp, tkd, tsd, v4, v5, v6 => if tcp ≤ v6 then (some (tcp)) else ((fX5_offsetAt tkd v6 v5).bind fun r6 => ((fX5_wrap tcp r6).bind fun r7 => (if r7 = v4 then (some (v6 + (1 : Int32))) else (fX5_distanceTo_29 n tcp tkd tsd v4 v5 (v6 + (1 : Int32))))))
def fX5_distanceTo  (tcp : Int32) (tkd : Int32) (tsd : Int32) (x0 : Int32) (x1 : Int32) : Option (Int32) := (fX5_hashOf tsd x1).bind fun r1 => ((fX5_wrap tcp r1).bind fun r2 => ((fX5_wrap tcp (x0 - r2)).bind fun r3 => ((fX5_strideOf tcp tkd r1).bind fun r4 => (fX5_distanceTo_29 1000 tcp tkd tsd r3 r4 (0 : Int32)))))
/-! HashLab$Table.keyAfter(I)I: 31 instructions -/
def fX5_keyAfter_47  (rec4 : Int32 → (Nat → Int32) → Int32 → Int32 → Int32 → Option (Int32)) (tcp : Int32) (tK : Nat → Int32) (v1 : Int32) (v2 : Int32) (v3 : Int32) : Option (Int32) := rec4 tcp tK v1 v2 (v3 + (1 : Int32))
def fX5_keyAfter_4  : Nat → Int32 → (Nat → Int32) → Int32 → Int32 → Int32 → Option (Int32)
  | 0, _, _, _, _, _ => none
  | n + 1, tcp, tK, v1, v2, v3 => if tcp ≤ v3 then (some (v2)) else ((fX5_content tK v3).bind fun r2 => ((fX5_isFullSlot tK v3).bind fun r3 => (if r3 = 0 then (fX5_keyAfter_47 (fX5_keyAfter_4 n) tcp tK v1 v2 v3) else (if r2 ≤ v1 then (fX5_keyAfter_47 (fX5_keyAfter_4 n) tcp tK v1 v2 v3) else (if v2 = (-1 : Int32) then (fX5_keyAfter_47 (fX5_keyAfter_4 n) tcp tK v1 r2 v3) else (if v2 ≤ r2 then (fX5_keyAfter_47 (fX5_keyAfter_4 n) tcp tK v1 v2 v3) else (fX5_keyAfter_47 (fX5_keyAfter_4 n) tcp tK v1 r2 v3)))))))
def fX5_keyAfter  (tcp : Int32) (tK : Nat → Int32) (x0 : Int32) : Option (Int32) := fX5_keyAfter_4 1000 tcp tK x0 (-1 : Int32) (0 : Int32)
/-! HashLab$Table.exceedsLimit(II)Z: 12 instructions -/
def fX5_exceedsLimit  (tlm : Int32) (x0 : Int32) (x1 : Int32) : Option (Int32) := if ((100 : Int32) * x0) ≤ (tlm * x1) then (some ((0 : Int32))) else (some ((1 : Int32)))
/-! HashLab$Table.needsRebuild()Z: 12 instructions -/
def fX5_needsRebuild  (tcp : Int32) (tlm : Int32) (tfu : Int32) (ttb : Int32) : Option (Int32) := (fX5_exceedsLimit tlm ((tfu + ttb) + (1 : Int32)) tcp).bind fun r1 => (if hl_nar .boolean r1 = true then some (r1) else none)
/-! HashLab$Table.nextCapacity()I: 21 instructions -/
def fX5_nextCapacity  (tcp : Int32) (tlm : Int32) (tfu : Int32) : Option (Int32) := (fX5_exceedsLimit tlm ((2 : Int32) * (tfu + (1 : Int32))) tcp).bind fun r1 => (if r1 = 0 then (some (tcp)) else (some (if (64 : Int32) < ((2 : Int32) * tcp) then (64 : Int32) else ((2 : Int32) * tcp))))
/-! HashLab$Table.hasRoom()Z: 16 instructions -/
def fX5_hasRoom  (tcp : Int32) (tlm : Int32) (tfu : Int32) (ttb : Int32) : Option (Int32) := (fX5_needsRebuild tcp tlm tfu ttb).bind fun r1 => (if r1 = 0 then (some ((1 : Int32))) else ((fX5_nextCapacity tcp tlm tfu).bind fun r3 => ((fX5_exceedsLimit tlm (tfu + (1 : Int32)) r3).bind fun r4 => (if r4 = 0 then (some ((1 : Int32))) else (some ((0 : Int32)))))))
/-! HashLab$Table.place(II)V: 51 instructions -/
def fX5_place_58  (tcp : Int32) (tkd : Int32) (tsd : Int32) (tfu : Int32) (ttb : Int32) (tK : Nat → Int32) (tV : Nat → Int32) (v1 : Int32) (v2 : Int32) (v4 : Int32) : Option (Int32 × Int32 × (Nat → Int32) × (Nat → Int32)) := if hl_in v4 64 = true then (if hl_in v4 64 = true then (some (tfu + (1 : Int32), ttb, upd tK (v4.toNatClampNeg) v1, upd tV (v4.toNatClampNeg) v2)) else none) else none
def fX5_place_85  (rec2 : Int32 → Int32 → Int32 → Int32 → Int32 → (Nat → Int32) → (Nat → Int32) → Int32 → Int32 → Int32 → Option (Int32 × Int32 × (Nat → Int32) × (Nat → Int32))) (tcp : Int32) (tkd : Int32) (tsd : Int32) (tfu : Int32) (ttb : Int32) (tK : Nat → Int32) (tV : Nat → Int32) (v1 : Int32) (v2 : Int32) (v3 : Int32) : Option (Int32 × Int32 × (Nat → Int32) × (Nat → Int32)) := rec2 tcp tkd tsd tfu ttb tK tV v1 v2 (v3 + (1 : Int32))
def fX5_place_2  : Nat → Int32 → Int32 → Int32 → Int32 → Int32 → (Nat → Int32) → (Nat → Int32) → Int32 → Int32 → Int32 → Option (Int32 × Int32 × (Nat → Int32) × (Nat → Int32))
  | 0, _, _, _, _, _, _, _, _, _, _ => none
  | n + 1, tcp, tkd, tsd, tfu, ttb, tK, tV, v1, v2, v3 => if tcp ≤ v3 then (some (tfu, ttb, tK, tV)) else ((fX5_slotInSequence tcp tkd tsd v1 v3).bind fun r2 => ((fX5_isInRows r2).bind fun r3 => (if r3 = 0 then (fX5_place_85 (fX5_place_2 n) tcp tkd tsd tfu ttb tK tV v1 v2 v3) else (if hl_in r2 64 = true then (if 0 ≤ (tK r2.toNatClampNeg) then (fX5_place_85 (fX5_place_2 n) tcp tkd tsd tfu ttb tK tV v1 v2 v3) else (if hl_in r2 64 = true then (if (tK r2.toNatClampNeg) = (-2 : Int32) then (fX5_place_58 tcp tkd tsd tfu (ttb - (1 : Int32)) tK tV v1 v2 r2) else (fX5_place_58 tcp tkd tsd tfu ttb tK tV v1 v2 r2)) else none)) else none))))
def fX5_place  (tcp : Int32) (tkd : Int32) (tsd : Int32) (tfu : Int32) (ttb : Int32) (tK : Nat → Int32) (tV : Nat → Int32) (x0 : Int32) (x1 : Int32) : Option (Int32 × Int32 × (Nat → Int32) × (Nat → Int32)) := fX5_place_2 1000 tcp tkd tsd tfu ttb tK tV x0 x1 (0 : Int32)
/-! HashLab$Table.rebuildWith(I)V: 58 instructions -/
def fX5_rebuildWith_96  (rec65 : Int32 → Int32 → Int32 → Int32 → Int32 → Int32 → Int32 → (Nat → Int32) → (Nat → Int32) → (Nat → Int32) → (Nat → Int32) → Int32 → Option (Int32 × Int32 × Int32 × Int32 × Int32 × (Nat → Int32) × (Nat → Int32) × (Nat → Int32) × (Nat → Int32))) (tcp : Int32) (tkd : Int32) (tsd : Int32) (tfu : Int32) (ttb : Int32) (trb : Int32) (tgr : Int32) (tK : Nat → Int32) (tV : Nat → Int32) (tO : Nat → Int32) (tW : Nat → Int32) (v2 : Int32) : Option (Int32 × Int32 × Int32 × Int32 × Int32 × (Nat → Int32) × (Nat → Int32) × (Nat → Int32) × (Nat → Int32)) := rec65 tcp tkd tsd tfu ttb trb tgr tK tV tO tW (v2 + (1 : Int32))
def fX5_rebuildWith_65  : Nat → Int32 → Int32 → Int32 → Int32 → Int32 → Int32 → Int32 → (Nat → Int32) → (Nat → Int32) → (Nat → Int32) → (Nat → Int32) → Int32 → Option (Int32 × Int32 × Int32 × Int32 × Int32 × (Nat → Int32) × (Nat → Int32) × (Nat → Int32) × (Nat → Int32))
  | 0, _, _, _, _, _, _, _, _, _, _, _, _ => none
  | n + 1, tcp, tkd, tsd, tfu, ttb, trb, tgr, tK, tV, tO, tW, v2 => if (64 : Int32) ≤ v2 then (some (tcp, tfu, ttb, trb, tgr, tK, tV, tO, tW)) else (if hl_in v2 64 = true then (if (tO v2.toNatClampNeg) < 0 then (fX5_rebuildWith_96 (fX5_rebuildWith_65 n) tcp tkd tsd tfu ttb trb tgr tK tV tO tW v2) else (if hl_in v2 64 = true then (if hl_in v2 64 = true then ((fX5_place tcp tkd tsd tfu ttb tK tV (tO v2.toNatClampNeg) (tW v2.toNatClampNeg)).bind fun r8 => (fX5_rebuildWith_96 (fX5_rebuildWith_65 n) tcp tkd tsd r8.1 r8.2.1 trb tgr r8.2.2.1 r8.2.2.2 tO tW v2)) else none) else none)) else none)
def fX5_rebuildWith_58  (tcp : Int32) (tkd : Int32) (tsd : Int32) (tfu : Int32) (ttb : Int32) (trb : Int32) (tgr : Int32) (tK : Nat → Int32) (tV : Nat → Int32) (tO : Nat → Int32) (tW : Nat → Int32) (v1 : Int32) : Option (Int32 × Int32 × Int32 × Int32 × Int32 × (Nat → Int32) × (Nat → Int32) × (Nat → Int32) × (Nat → Int32)) := (fX5_empty tcp tfu ttb tK v1).bind fun r2 => (fX5_rebuildWith_65 1000 r2.1 tkd tsd r2.2.1 r2.2.2.1 trb tgr r2.2.2.2 tV tO tW (0 : Int32))
def fX5_rebuildWith  (tcp : Int32) (tkd : Int32) (tsd : Int32) (tfu : Int32) (ttb : Int32) (trb : Int32) (tgr : Int32) (tK : Nat → Int32) (tV : Nat → Int32) (tO : Nat → Int32) (tW : Nat → Int32) (x0 : Int32) : Option (Int32 × Int32 × Int32 × Int32 × Int32 × (Nat → Int32) × (Nat → Int32) × (Nat → Int32) × (Nat → Int32)) := if x0 ≤ tcp then (fX5_rebuildWith_58 tcp tkd tsd tfu ttb (trb + (1 : Int32)) tgr tK tV (va_cpy tK tO 0 0 64) (va_cpy tV tW 0 0 64) x0) else (fX5_rebuildWith_58 tcp tkd tsd tfu ttb (trb + (1 : Int32)) (tgr + (1 : Int32)) tK tV (va_cpy tK tO 0 0 64) (va_cpy tV tW 0 0 64) x0)
/-! HashLab$Table.enter(II)Z: 32 instructions -/
def fX5_enter  (tcp : Int32) (tkd : Int32) (tsd : Int32) (tlm : Int32) (tfu : Int32) (ttb : Int32) (trb : Int32) (tgr : Int32) (tK : Nat → Int32) (tV : Nat → Int32) (tO : Nat → Int32) (tW : Nat → Int32) (x0 : Int32) (x1 : Int32) : Option (Int32 × Int32 × Int32 × Int32 × Int32 × Int32 × (Nat → Int32) × (Nat → Int32) × (Nat → Int32) × (Nat → Int32)) := (fX5_slotHolding tcp tkd tsd tK x0).bind fun r1 => ((fX5_isInRows r1).bind fun r2 => (if r2 = 0 then ((fX5_hasRoom tcp tlm tfu ttb).bind fun r4 => (if r4 = 0 then (some ((0 : Int32), tcp, tfu, ttb, trb, tgr, tK, tV, tO, tW)) else ((fX5_needsRebuild tcp tlm tfu ttb).bind fun r6 => (if r6 = 0 then ((fX5_place tcp tkd tsd tfu ttb tK tV x0 x1).bind fun r8 => (some ((1 : Int32), tcp, r8.1, r8.2.1, trb, tgr, r8.2.2.1, r8.2.2.2, tO, tW))) else ((fX5_nextCapacity tcp tlm tfu).bind fun r9 => ((fX5_rebuildWith tcp tkd tsd tfu ttb trb tgr tK tV tO tW r9).bind fun r10 => ((fX5_place r10.1 tkd tsd r10.2.1 r10.2.2.1 r10.2.2.2.2.2.1 r10.2.2.2.2.2.2.1 x0 x1).bind fun r11 => (some ((1 : Int32), r10.1, r11.1, r11.2.1, r10.2.2.2.1, r10.2.2.2.2.1, r11.2.2.1, r11.2.2.2, r10.2.2.2.2.2.2.2.1, r10.2.2.2.2.2.2.2.2))))))))) else (if hl_in r1 64 = true then (some ((1 : Int32), tcp, tfu, ttb, trb, tgr, tK, upd tV (r1.toNatClampNeg) x1, tO, tW)) else none)))
/-! HashLab$Table.bury(I)Z: 29 instructions -/
def fX5_bury  (tfu : Int32) (ttb : Int32) (tK : Nat → Int32) (x0 : Int32) : Option (Int32 × Int32 × Int32 × (Nat → Int32)) := (fX5_isInRows x0).bind fun r1 => (if r1 = 0 then (some ((0 : Int32), tfu, ttb, tK)) else (if hl_in x0 64 = true then (if 0 ≤ (tK x0.toNatClampNeg) then (if hl_in x0 64 = true then (some ((1 : Int32), tfu - (1 : Int32), ttb + (1 : Int32), upd tK (x0.toNatClampNeg) (-2 : Int32))) else none) else (some ((0 : Int32), tfu, ttb, tK))) else none))
/-! HashLab$Table.changeKind(I)V: 8 instructions -/
def fX5_changeKind  (tcp : Int32) (tkd : Int32) (tsd : Int32) (tfu : Int32) (ttb : Int32) (trb : Int32) (tgr : Int32) (tK : Nat → Int32) (tV : Nat → Int32) (tO : Nat → Int32) (tW : Nat → Int32) (x0 : Int32) : Option (Int32 × Int32 × Int32 × Int32 × Int32 × Int32 × (Nat → Int32) × (Nat → Int32) × (Nat → Int32) × (Nat → Int32)) := (fX5_rebuildWith tcp x0 tsd tfu ttb trb tgr tK tV tO tW tcp).bind fun r1 => (some (r1.1, x0, r1.2.1, r1.2.2.1, r1.2.2.2.1, r1.2.2.2.2.1, r1.2.2.2.2.2.1, r1.2.2.2.2.2.2.1, r1.2.2.2.2.2.2.2.1, r1.2.2.2.2.2.2.2.2))
/-! HashLab$Table.changeSeed(I)V: 8 instructions -/
def fX5_changeSeed  (tcp : Int32) (tkd : Int32) (tsd : Int32) (tfu : Int32) (ttb : Int32) (trb : Int32) (tgr : Int32) (tK : Nat → Int32) (tV : Nat → Int32) (tO : Nat → Int32) (tW : Nat → Int32) (x0 : Int32) : Option (Int32 × Int32 × Int32 × Int32 × Int32 × Int32 × (Nat → Int32) × (Nat → Int32) × (Nat → Int32) × (Nat → Int32)) := (fX5_rebuildWith tcp tkd x0 tfu ttb trb tgr tK tV tO tW tcp).bind fun r1 => (some (r1.1, x0, r1.2.1, r1.2.2.1, r1.2.2.2.1, r1.2.2.2.2.1, r1.2.2.2.2.2.1, r1.2.2.2.2.2.2.1, r1.2.2.2.2.2.2.2.1, r1.2.2.2.2.2.2.2.2))
/-! HashLab$Table.meanSearchLength()D: 34 instructions -/
def fX5_meanSearchLength_32  (rec4 : Int32 → Int32 → Int32 → Int32 → (Nat → Int32) → Int32 → Int32 → Option (UInt64)) (tcp : Int32) (tkd : Int32) (tsd : Int32) (tfu : Int32) (tK : Nat → Int32) (v1 : Int32) (v2 : Int32) : Option (UInt64) := rec4 tcp tkd tsd tfu tK v1 (v2 + (1 : Int32))
def fX5_meanSearchLength_4  : Nat → Int32 → Int32 → Int32 → Int32 → (Nat → Int32) → Int32 → Int32 → Option (UInt64)
  | 0, _, _, _, _, _, _, _ => none
  | n + 1, tcp, tkd, tsd, tfu, tK, v1, v2 => if tcp ≤ v2 then (if tfu ≤ 0 then (some (FP.dconst0)) else (if hl_n64 (FP.ddiv (FP.i2d v1) (FP.i2d tfu)) = true then (some (FP.ddiv (FP.i2d v1) (FP.i2d tfu))) else none)) else ((fX5_isFullSlot tK v2).bind fun r4 => (if r4 = 0 then (fX5_meanSearchLength_32 (fX5_meanSearchLength_4 n) tcp tkd tsd tfu tK v1 v2) else ((fX5_content tK v2).bind fun r6 => ((fX5_searchLength tcp tkd tsd tK r6).bind fun r7 => (fX5_meanSearchLength_32 (fX5_meanSearchLength_4 n) tcp tkd tsd tfu tK (v1 + r7) v2)))))
def fX5_meanSearchLength  (tcp : Int32) (tkd : Int32) (tsd : Int32) (tfu : Int32) (tK : Nat → Int32) : Option (UInt64) := fX5_meanSearchLength_4 1000 tcp tkd tsd tfu tK (0 : Int32) (0 : Int32)
/-! HashLab$Table.share()F: 13 instructions -/
def fX5_share  (tcp : Int32) (tfu : Int32) : Option (UInt32) := if tcp ≤ 0 then (some (FP.fconst0)) else (if hl_n32 (FP.fdiv (FP.i2f tfu) (FP.i2f tcp)) = true then (some (FP.fdiv (FP.i2f tfu) (FP.i2f tcp))) else none)
/-! HashLab$Table.bothCountsAgree()Z: 28 instructions -/
def fX5_bothCountsAgree_40  (rec2 : Int32 → Int32 → Int32 → (Nat → Int32) → Int32 → Option (Int32)) (tcp : Int32) (tkd : Int32) (tsd : Int32) (tK : Nat → Int32) (v1 : Int32) : Option (Int32) := rec2 tcp tkd tsd tK (v1 + (1 : Int32))
def fX5_bothCountsAgree_2  : Nat → Int32 → Int32 → Int32 → (Nat → Int32) → Int32 → Option (Int32)
  | 0, _, _, _, _, _ => none
  | n + 1, tcp, tkd, tsd, tK, v1 => if tcp ≤ v1 then (some ((1 : Int32))) else ((fX5_content tK v1).bind fun r2 => ((fX5_isFullSlot tK v1).bind fun r3 => (if r3 = 0 then (fX5_bothCountsAgree_40 (fX5_bothCountsAgree_2 n) tcp tkd tsd tK v1) else ((fX5_searchLength tcp tkd tsd tK r2).bind fun r5 => ((fX5_distanceTo tcp tkd tsd v1 r2).bind fun r6 => (if r5 = r6 then (fX5_bothCountsAgree_40 (fX5_bothCountsAgree_2 n) tcp tkd tsd tK v1) else (some ((0 : Int32)))))))))
def fX5_bothCountsAgree  (tcp : Int32) (tkd : Int32) (tsd : Int32) (tK : Nat → Int32) : Option (Int32) := fX5_bothCountsAgree_2 1000 tcp tkd tsd tK (0 : Int32)
/-! java/lang/Long.bitCount(J)I: 49 instructions -/
def fJ13_bitCount_95d88  (x0 : Int64) : Option (Int32) := some ((((((((((x0 - (((x0.toUInt64 >>> ((1 : Int32).toInt64.toUInt64 &&& Int64.toUInt64 63)).toInt64) &&& (6148914691236517205 : Int64))) &&& (3689348814741910323 : Int64)) + ((((x0 - (((x0.toUInt64 >>> ((1 : Int32).toInt64.toUInt64 &&& Int64.toUInt64 63)).toInt64) &&& (6148914691236517205 : Int64))).toUInt64 >>> ((2 : Int32).toInt64.toUInt64 &&& Int64.toUInt64 63)).toInt64) &&& (3689348814741910323 : Int64))) + (((((x0 - (((x0.toUInt64 >>> ((1 : Int32).toInt64.toUInt64 &&& Int64.toUInt64 63)).toInt64) &&& (6148914691236517205 : Int64))) &&& (3689348814741910323 : Int64)) + ((((x0 - (((x0.toUInt64 >>> ((1 : Int32).toInt64.toUInt64 &&& Int64.toUInt64 63)).toInt64) &&& (6148914691236517205 : Int64))).toUInt64 >>> ((2 : Int32).toInt64.toUInt64 &&& Int64.toUInt64 63)).toInt64) &&& (3689348814741910323 : Int64))).toUInt64 >>> ((4 : Int32).toInt64.toUInt64 &&& Int64.toUInt64 63)).toInt64)) &&& (1085102592571150095 : Int64)) + (((((((x0 - (((x0.toUInt64 >>> ((1 : Int32).toInt64.toUInt64 &&& Int64.toUInt64 63)).toInt64) &&& (6148914691236517205 : Int64))) &&& (3689348814741910323 : Int64)) + ((((x0 - (((x0.toUInt64 >>> ((1 : Int32).toInt64.toUInt64 &&& Int64.toUInt64 63)).toInt64) &&& (6148914691236517205 : Int64))).toUInt64 >>> ((2 : Int32).toInt64.toUInt64 &&& Int64.toUInt64 63)).toInt64) &&& (3689348814741910323 : Int64))) + (((((x0 - (((x0.toUInt64 >>> ((1 : Int32).toInt64.toUInt64 &&& Int64.toUInt64 63)).toInt64) &&& (6148914691236517205 : Int64))) &&& (3689348814741910323 : Int64)) + ((((x0 - (((x0.toUInt64 >>> ((1 : Int32).toInt64.toUInt64 &&& Int64.toUInt64 63)).toInt64) &&& (6148914691236517205 : Int64))).toUInt64 >>> ((2 : Int32).toInt64.toUInt64 &&& Int64.toUInt64 63)).toInt64) &&& (3689348814741910323 : Int64))).toUInt64 >>> ((4 : Int32).toInt64.toUInt64 &&& Int64.toUInt64 63)).toInt64)) &&& (1085102592571150095 : Int64)).toUInt64 >>> ((8 : Int32).toInt64.toUInt64 &&& Int64.toUInt64 63)).toInt64)) + ((((((((x0 - (((x0.toUInt64 >>> ((1 : Int32).toInt64.toUInt64 &&& Int64.toUInt64 63)).toInt64) &&& (6148914691236517205 : Int64))) &&& (3689348814741910323 : Int64)) + ((((x0 - (((x0.toUInt64 >>> ((1 : Int32).toInt64.toUInt64 &&& Int64.toUInt64 63)).toInt64) &&& (6148914691236517205 : Int64))).toUInt64 >>> ((2 : Int32).toInt64.toUInt64 &&& Int64.toUInt64 63)).toInt64) &&& (3689348814741910323 : Int64))) + (((((x0 - (((x0.toUInt64 >>> ((1 : Int32).toInt64.toUInt64 &&& Int64.toUInt64 63)).toInt64) &&& (6148914691236517205 : Int64))) &&& (3689348814741910323 : Int64)) + ((((x0 - (((x0.toUInt64 >>> ((1 : Int32).toInt64.toUInt64 &&& Int64.toUInt64 63)).toInt64) &&& (6148914691236517205 : Int64))).toUInt64 >>> ((2 : Int32).toInt64.toUInt64 &&& Int64.toUInt64 63)).toInt64) &&& (3689348814741910323 : Int64))).toUInt64 >>> ((4 : Int32).toInt64.toUInt64 &&& Int64.toUInt64 63)).toInt64)) &&& (1085102592571150095 : Int64)) + (((((((x0 - (((x0.toUInt64 >>> ((1 : Int32).toInt64.toUInt64 &&& Int64.toUInt64 63)).toInt64) &&& (6148914691236517205 : Int64))) &&& (3689348814741910323 : Int64)) + ((((x0 - (((x0.toUInt64 >>> ((1 : Int32).toInt64.toUInt64 &&& Int64.toUInt64 63)).toInt64) &&& (6148914691236517205 : Int64))).toUInt64 >>> ((2 : Int32).toInt64.toUInt64 &&& Int64.toUInt64 63)).toInt64) &&& (3689348814741910323 : Int64))) + (((((x0 - (((x0.toUInt64 >>> ((1 : Int32).toInt64.toUInt64 &&& Int64.toUInt64 63)).toInt64) &&& (6148914691236517205 : Int64))) &&& (3689348814741910323 : Int64)) + ((((x0 - (((x0.toUInt64 >>> ((1 : Int32).toInt64.toUInt64 &&& Int64.toUInt64 63)).toInt64) &&& (6148914691236517205 : Int64))).toUInt64 >>> ((2 : Int32).toInt64.toUInt64 &&& Int64.toUInt64 63)).toInt64) &&& (3689348814741910323 : Int64))).toUInt64 >>> ((4 : Int32).toInt64.toUInt64 &&& Int64.toUInt64 63)).toInt64)) &&& (1085102592571150095 : Int64)).toUInt64 >>> ((8 : Int32).toInt64.toUInt64 &&& Int64.toUInt64 63)).toInt64)).toUInt64 >>> ((16 : Int32).toInt64.toUInt64 &&& Int64.toUInt64 63)).toInt64)) + (((((((((x0 - (((x0.toUInt64 >>> ((1 : Int32).toInt64.toUInt64 &&& Int64.toUInt64 63)).toInt64) &&& (6148914691236517205 : Int64))) &&& (3689348814741910323 : Int64)) + ((((x0 - (((x0.toUInt64 >>> ((1 : Int32).toInt64.toUInt64 &&& Int64.toUInt64 63)).toInt64) &&& (6148914691236517205 : Int64))).toUInt64 >>> ((2 : Int32).toInt64.toUInt64 &&& Int64.toUInt64 63)).toInt64) &&& (3689348814741910323 : Int64))) + (((((x0 - (((x0.toUInt64 >>> ((1 : Int32).toInt64.toUInt64 &&& Int64.toUInt64 63)).toInt64) &&& (6148914691236517205 : Int64))) &&& (3689348814741910323 : Int64)) + ((((x0 - (((x0.toUInt64 >>> ((1 : Int32).toInt64.toUInt64 &&& Int64.toUInt64 63)).toInt64) &&& (6148914691236517205 : Int64))).toUInt64 >>> ((2 : Int32).toInt64.toUInt64 &&& Int64.toUInt64 63)).toInt64) &&& (3689348814741910323 : Int64))).toUInt64 >>> ((4 : Int32).toInt64.toUInt64 &&& Int64.toUInt64 63)).toInt64)) &&& (1085102592571150095 : Int64)) + (((((((x0 - (((x0.toUInt64 >>> ((1 : Int32).toInt64.toUInt64 &&& Int64.toUInt64 63)).toInt64) &&& (6148914691236517205 : Int64))) &&& (3689348814741910323 : Int64)) + ((((x0 - (((x0.toUInt64 >>> ((1 : Int32).toInt64.toUInt64 &&& Int64.toUInt64 63)).toInt64) &&& (6148914691236517205 : Int64))).toUInt64 >>> ((2 : Int32).toInt64.toUInt64 &&& Int64.toUInt64 63)).toInt64) &&& (3689348814741910323 : Int64))) + (((((x0 - (((x0.toUInt64 >>> ((1 : Int32).toInt64.toUInt64 &&& Int64.toUInt64 63)).toInt64) &&& (6148914691236517205 : Int64))) &&& (3689348814741910323 : Int64)) + ((((x0 - (((x0.toUInt64 >>> ((1 : Int32).toInt64.toUInt64 &&& Int64.toUInt64 63)).toInt64) &&& (6148914691236517205 : Int64))).toUInt64 >>> ((2 : Int32).toInt64.toUInt64 &&& Int64.toUInt64 63)).toInt64) &&& (3689348814741910323 : Int64))).toUInt64 >>> ((4 : Int32).toInt64.toUInt64 &&& Int64.toUInt64 63)).toInt64)) &&& (1085102592571150095 : Int64)).toUInt64 >>> ((8 : Int32).toInt64.toUInt64 &&& Int64.toUInt64 63)).toInt64)) + ((((((((x0 - (((x0.toUInt64 >>> ((1 : Int32).toInt64.toUInt64 &&& Int64.toUInt64 63)).toInt64) &&& (6148914691236517205 : Int64))) &&& (3689348814741910323 : Int64)) + ((((x0 - (((x0.toUInt64 >>> ((1 : Int32).toInt64.toUInt64 &&& Int64.toUInt64 63)).toInt64) &&& (6148914691236517205 : Int64))).toUInt64 >>> ((2 : Int32).toInt64.toUInt64 &&& Int64.toUInt64 63)).toInt64) &&& (3689348814741910323 : Int64))) + (((((x0 - (((x0.toUInt64 >>> ((1 : Int32).toInt64.toUInt64 &&& Int64.toUInt64 63)).toInt64) &&& (6148914691236517205 : Int64))) &&& (3689348814741910323 : Int64)) + ((((x0 - (((x0.toUInt64 >>> ((1 : Int32).toInt64.toUInt64 &&& Int64.toUInt64 63)).toInt64) &&& (6148914691236517205 : Int64))).toUInt64 >>> ((2 : Int32).toInt64.toUInt64 &&& Int64.toUInt64 63)).toInt64) &&& (3689348814741910323 : Int64))).toUInt64 >>> ((4 : Int32).toInt64.toUInt64 &&& Int64.toUInt64 63)).toInt64)) &&& (1085102592571150095 : Int64)) + (((((((x0 - (((x0.toUInt64 >>> ((1 : Int32).toInt64.toUInt64 &&& Int64.toUInt64 63)).toInt64) &&& (6148914691236517205 : Int64))) &&& (3689348814741910323 : Int64)) + ((((x0 - (((x0.toUInt64 >>> ((1 : Int32).toInt64.toUInt64 &&& Int64.toUInt64 63)).toInt64) &&& (6148914691236517205 : Int64))).toUInt64 >>> ((2 : Int32).toInt64.toUInt64 &&& Int64.toUInt64 63)).toInt64) &&& (3689348814741910323 : Int64))) + (((((x0 - (((x0.toUInt64 >>> ((1 : Int32).toInt64.toUInt64 &&& Int64.toUInt64 63)).toInt64) &&& (6148914691236517205 : Int64))) &&& (3689348814741910323 : Int64)) + ((((x0 - (((x0.toUInt64 >>> ((1 : Int32).toInt64.toUInt64 &&& Int64.toUInt64 63)).toInt64) &&& (6148914691236517205 : Int64))).toUInt64 >>> ((2 : Int32).toInt64.toUInt64 &&& Int64.toUInt64 63)).toInt64) &&& (3689348814741910323 : Int64))).toUInt64 >>> ((4 : Int32).toInt64.toUInt64 &&& Int64.toUInt64 63)).toInt64)) &&& (1085102592571150095 : Int64)).toUInt64 >>> ((8 : Int32).toInt64.toUInt64 &&& Int64.toUInt64 63)).toInt64)).toUInt64 >>> ((16 : Int32).toInt64.toUInt64 &&& Int64.toUInt64 63)).toInt64)).toUInt64 >>> ((32 : Int32).toInt64.toUInt64 &&& Int64.toUInt64 63)).toInt64)).toInt32) &&& (127 : Int32))
/-! HashLab$Table.numberVisited(I)I: 22 instructions -/
def fX5_numberVisited_5  : Nat → Int32 → Int32 → Int32 → Int32 → Int64 → Int32 → Option (Int32)
  | 0, _, _, _, _, _, _ => none
  | n + 1, tcp, tkd, tsd, v1, v2, v4 => if tcp ≤ v4 then ((fJ13_bitCount_95d88 v2).bind fun r2 => (some (r2))) else ((fX5_slotInSequence tcp tkd tsd v1 v4).bind fun r3 => (fX5_numberVisited_5 n tcp tkd tsd v1 (v2 ||| ((1 : Int64) <<< (r3.toInt64 &&& 63))) (v4 + (1 : Int32))))
def fX5_numberVisited  (tcp : Int32) (tkd : Int32) (tsd : Int32) (x0 : Int32) : Option (Int32) := fX5_numberVisited_5 1000 tcp tkd tsd x0 (0 : Int64) (0 : Int32)
/-! HashLab$Table.sequencesVisitAllSlots()Z: 24 instructions -/
def fX5_sequencesVisitAllSlots_36  (rec2 : Int32 → Int32 → Int32 → (Nat → Int32) → Int32 → Option (Int32)) (tcp : Int32) (tkd : Int32) (tsd : Int32) (tK : Nat → Int32) (v1 : Int32) : Option (Int32) := rec2 tcp tkd tsd tK (v1 + (1 : Int32))
def fX5_sequencesVisitAllSlots_2  : Nat → Int32 → Int32 → Int32 → (Nat → Int32) → Int32 → Option (Int32)
  | 0, _, _, _, _, _ => none
  | n + 1, tcp, tkd, tsd, tK, v1 => if tcp ≤ v1 then (some ((1 : Int32))) else ((fX5_isFullSlot tK v1).bind fun r2 => (if r2 = 0 then (fX5_sequencesVisitAllSlots_36 (fX5_sequencesVisitAllSlots_2 n) tcp tkd tsd tK v1) else ((fX5_content tK v1).bind fun r4 => ((fX5_numberVisited tcp tkd tsd r4).bind fun r5 => (if r5 = tcp then (fX5_sequencesVisitAllSlots_36 (fX5_sequencesVisitAllSlots_2 n) tcp tkd tsd tK v1) else (some ((0 : Int32))))))))
def fX5_sequencesVisitAllSlots  (tcp : Int32) (tkd : Int32) (tsd : Int32) (tK : Nat → Int32) : Option (Int32) := fX5_sequencesVisitAllSlots_2 1000 tcp tkd tsd tK (0 : Int32)
/-! HashLab$Table.hasKeysOf(LHashLab$Table;)Z: 30 instructions -/
def fX5_hasKeysOf_33  (rec2 : Int32 → Int32 → Int32 → Int32 → (Nat → Int32) → Int32 → Int32 → (Nat → Int32) → Int32 → Option (Int32)) (tcp : Int32) (tkd : Int32) (tsd : Int32) (tfu : Int32) (tK : Nat → Int32) (ocp : Int32) (ofu : Int32) (oK : Nat → Int32) (v2 : Int32) : Option (Int32) := rec2 tcp tkd tsd tfu tK ocp ofu oK (v2 + (1 : Int32))
def fX5_hasKeysOf_2  : Nat → Int32 → Int32 → Int32 → Int32 → (Nat → Int32) → Int32 → Int32 → (Nat → Int32) → Int32 → Option (Int32)
  | 0, _, _, _, _, _, _, _, _, _ => none
  | n + 1, tcp, tkd, tsd, tfu, tK, ocp, ofu, oK, v2 => if ocp ≤ v2 then (if tfu = ofu then (some ((1 : Int32))) else (some ((0 : Int32)))) else ((fX5_isFullSlot oK v2).bind fun r3 => (if r3 = 0 then (fX5_hasKeysOf_33 (fX5_hasKeysOf_2 n) tcp tkd tsd tfu tK ocp ofu oK v2) else ((fX5_content oK v2).bind fun r5 => ((fX5_slotHolding tcp tkd tsd tK r5).bind fun r6 => (if r6 = (-1 : Int32) then (some ((0 : Int32))) else (fX5_hasKeysOf_33 (fX5_hasKeysOf_2 n) tcp tkd tsd tfu tK ocp ofu oK v2))))))
def fX5_hasKeysOf  (tcp : Int32) (tkd : Int32) (tsd : Int32) (tfu : Int32) (tK : Nat → Int32) (ocp : Int32) (ofu : Int32) (oK : Nat → Int32) : Option (Int32) := fX5_hasKeysOf_2 1000 tcp tkd tsd tfu tK ocp ofu oK (0 : Int32)
abbrev rmJ7_fill_53178 : Room := { frames := 0, cells := 0, slots := 0, locals := 0 }
theorem hmJ7_fill_53178 : hMS yJ7_fill_53178 cJ7_fill_53178 4 none 2 := ⟨q_59, q_14, q_58, by decide, by decide, by decide +kernel⟩
theorem dJ7_fill_53178_0 : decode cJ7_fill_53178 0 = .ok (.iconst 0, 1) := by decide +kernel
theorem dJ7_fill_53178_1 : decode cJ7_fill_53178 1 = .ok (.istore_n 2, 1) := by decide +kernel
theorem dJ7_fill_53178_2 : decode cJ7_fill_53178 2 = .ok (.aload_n 0, 1) := by decide +kernel
theorem dJ7_fill_53178_3 : decode cJ7_fill_53178 3 = .ok (.arraylength, 1) := by decide +kernel
theorem dJ7_fill_53178_4 : decode cJ7_fill_53178 4 = .ok (.istore_n 3, 1) := by decide +kernel
theorem dJ7_fill_53178_5 : decode cJ7_fill_53178 5 = .ok (.iload_n 2, 1) := by decide +kernel
theorem dJ7_fill_53178_6 : decode cJ7_fill_53178 6 = .ok (.iload_n 3, 1) := by decide +kernel
theorem dJ7_fill_53178_7 : decode cJ7_fill_53178 7 = .ok (.if_icmp .ge 13, 3) := by decide +kernel
theorem dJ7_fill_53178_10 : decode cJ7_fill_53178 10 = .ok (.aload_n 0, 1) := by decide +kernel
theorem dJ7_fill_53178_11 : decode cJ7_fill_53178 11 = .ok (.iload_n 2, 1) := by decide +kernel
theorem dJ7_fill_53178_12 : decode cJ7_fill_53178 12 = .ok (.iload_n 1, 1) := by decide +kernel
theorem dJ7_fill_53178_13 : decode cJ7_fill_53178 13 = .ok (.iastore, 1) := by decide +kernel
theorem dJ7_fill_53178_14 : decode cJ7_fill_53178 14 = .ok (.iinc 2 1, 3) := by decide +kernel
theorem dJ7_fill_53178_17 : decode cJ7_fill_53178 17 = .ok (.goto (-12), 3) := by decide +kernel
theorem dJ7_fill_53178_20 : decode cJ7_fill_53178 20 = .ok (.return_, 1) := by decide +kernel
set_option maxHeartbeats 4000000 in
set_option maxRecDepth 100000 in
theorem bJ7_fill_53178_5 {p : Program} {l : Launch} {e : Env} {s : State} {m : MethodId} {args : Array Value} {below : List Frame} {meth : Method} {c : Code} {D : va_G} {cB cC cI cO : ClassId} {A : Nat → Prop} {an : Nat} (C0 : gC RJ7 cJ7_fill_53178 4 none p s m args meth c D (hTy cB cC cI cO) A) (a1 : Nat) (out : (Nat → Int32))    : ∀ (n : Nat) (aF : Nat → Int32) (v1 : Int32) (v2 : Int32) (v3 : Int32), fJ7_fill_53178_5 an n aF v1 v2 v3 = some out → gG p l e rmJ7_fill_53178 s m args below meth c D A 4 (MQ below (hQv D [(a1, .inl (cI, an, .inl out))] A) args s 0 0 A) 0 0 5 [(0, .ref a1), (1, .int v1), (2, .int v2), (3, .int v3)] [] [(a1, .inl (cI, an, .inl aF))] := by
  intro n
  induction n with
  | zero => intro aF v1 v2 v3 hf; rw [fJ7_fill_53178_5] at hf; cases hf
  | succ n ih =>
    intro aF v1 v2 v3 hf
    rw [fJ7_fill_53178_5] at hf
    refine g_iload_n C0 dJ7_fill_53178_5 rfl 2 rfl ?_
    refine g_iload_n C0 dJ7_fill_53178_6 rfl 3 rfl ?_
    refine g_icmp_ge C0 (tgt := 20) dJ7_fill_53178_7 (by decide) (fun c1 => ?_) (fun c1 => ?_)
    · rw [if_pos c1] at hf
      cases hf
      exact g_vret C0 dJ7_fill_53178_20 rfl
    · rw [if_neg c1] at hf
      refine g_aload_n C0 dJ7_fill_53178_10 rfl 0 rfl ?_
      refine g_iload_n C0 dJ7_fill_53178_11 rfl 2 rfl ?_
      refine g_iload_n C0 dJ7_fill_53178_12 rfl 1 rfl ?_
      obtain ⟨i2, hf⟩ := hl_ifS hf
      refine g_iast C0 (ws' := [(a1, .inl (cI, an, .inl (upd aF (v2.toNatClampNeg) v1)))]) 0 1 rfl rfl i2 rfl dJ7_fill_53178_13 rfl ?_
      refine g_iinc C0 (lv' := [(2, .int (v2 + (1 : Int32))), (0, .ref a1), (1, .int v1), (3, .int v3)]) dJ7_fill_53178_14 2 rfl rfl (by decide) rfl ?_
      refine g_goto C0 (tgt := 5) dJ7_fill_53178_17 (by decide) ?_
      refine g_lv [1, 2, 0, 3] (lv' := [(0, .ref a1), (1, .int v1), (2, .int (v2 + (1 : Int32))), (3, .int v3)]) rfl ?_
      exact ih (upd aF (v2.toNatClampNeg) v1) v1 (v2 + (1 : Int32)) v3 hf
set_option maxHeartbeats 4000000 in
set_option maxRecDepth 100000 in
theorem bJ7_fill_53178 {p : Program} {l : Launch} {e : Env} {s : State} {m : MethodId} {args : Array Value} {below : List Frame} {meth : Method} {c : Code} {D : va_G} {cB cC cI cO : ClassId} {A : Nat → Prop} {an : Nat} (C0 : gC RJ7 cJ7_fill_53178 4 none p s m args meth c D (hTy cB cC cI cO) A) (a1 : Nat) (out : (Nat → Int32)) (aF : Nat → Int32) (x0 : Int32) (hf : fJ7_fill_53178 an aF x0 = some out) : gG p l e rmJ7_fill_53178 s m args below meth c D A 4 (MQ below (hQv D [(a1, .inl (cI, an, .inl out))] A) args s 0 0 A) 0 0 0 [(0, .ref a1), (1, .int x0)] [] [(a1, .inl (cI, an, .inl aF))] := by
  unfold fJ7_fill_53178 at hf
  refine g_iconst C0 (v := (0 : Int32)) dJ7_fill_53178_0 (by decide) ?_
  refine g_istore_n C0 (lv' := [(2, .int (0 : Int32)), (0, .ref a1), (1, .int x0)]) dJ7_fill_53178_1 rfl (by decide) rfl ?_
  refine g_aload_n C0 dJ7_fill_53178_2 rfl 1 rfl ?_
  refine g_alen C0 (v := (Int32.ofNat an)) 0 1 rfl rfl rfl dJ7_fill_53178_3 ?_
  refine g_istore_n C0 (lv' := [(3, .int (Int32.ofNat an)), (2, .int (0 : Int32)), (0, .ref a1), (1, .int x0)]) dJ7_fill_53178_4 rfl (by decide) rfl ?_
  refine g_lv [2, 3, 1, 0] (lv' := [(0, .ref a1), (1, .int x0), (2, .int (0 : Int32)), (3, .int (Int32.ofNat an))]) rfl ?_
  exact bJ7_fill_53178_5 C0 a1 out   1000 aF x0 (0 : Int32) (Int32.ofNat an) hf
theorem mJ7_fill_53178 (l : Launch) (D : va_G) (cB cC cI cO : ClassId) (an : Nat) (a1 : Nat) (aF : Nat → Int32) (x0 : Int32) (out : (Nat → Int32)) (hf : fJ7_fill_53178 an aF x0 = some out) : ∀ sz, Met l yJ7_fill_53178 (ws_ yJ7_fill_53178 cJ7_fill_53178 4 none) rmJ7_fill_53178 (va_Pc [.ref a1, .int x0] (hPre D (hTy cB cC cI cO) [(a1, .inl (cI, an, .inl aF))] sz)) (hQv D [(a1, .inl (cI, an, .inl out))] (va_A [(a1, .inl (cI, an, .inl aF))] sz)) 0 0 (va_A [(a1, .inl (cI, an, .inl aF))] sz) :=
  g_met (Qf := fun A => hQv D [(a1, .inl (cI, an, .inl out))] A) (by decide +kernel) (Nat.le_of_ble_eq_true rfl) rfl (fun C0 => bJ7_fill_53178 C0 a1 out aF x0 hf)
abbrev rmX5_copyFrom : Room := { frames := 1, cells := 0, slots := 0, locals := 200 }
theorem hmX5_copyFrom : hMV yX5_copyFrom cX5_copyFrom 2 none 1 := ⟨q_630, q_13, q_628, q_629, by decide, by decide, by decide +kernel⟩
theorem dX5_copyFrom_0 : decode cX5_copyFrom 0 = .ok (.aload_n 1, 1) := by decide +kernel
theorem dX5_copyFrom_1 : decode cX5_copyFrom 1 = .ok (.getfield 9, 3) := by decide +kernel
theorem dX5_copyFrom_4 : decode cX5_copyFrom 4 = .ok (.iconst 0, 1) := by decide +kernel
theorem dX5_copyFrom_5 : decode cX5_copyFrom 5 = .ok (.aload_n 0, 1) := by decide +kernel
theorem dX5_copyFrom_6 : decode cX5_copyFrom 6 = .ok (.getfield 9, 3) := by decide +kernel
theorem dX5_copyFrom_9 : decode cX5_copyFrom 9 = .ok (.iconst 0, 1) := by decide +kernel
theorem dX5_copyFrom_10 : decode cX5_copyFrom 10 = .ok (.bipush 64, 2) := by decide +kernel
theorem dX5_copyFrom_12 : decode cX5_copyFrom 12 = .ok (.invokestatic 40, 3) := by decide +kernel
theorem dX5_copyFrom_15 : decode cX5_copyFrom 15 = .ok (.aload_n 1, 1) := by decide +kernel
theorem dX5_copyFrom_16 : decode cX5_copyFrom 16 = .ok (.getfield 15, 3) := by decide +kernel
theorem dX5_copyFrom_19 : decode cX5_copyFrom 19 = .ok (.iconst 0, 1) := by decide +kernel
theorem dX5_copyFrom_20 : decode cX5_copyFrom 20 = .ok (.aload_n 0, 1) := by decide +kernel
theorem dX5_copyFrom_21 : decode cX5_copyFrom 21 = .ok (.getfield 15, 3) := by decide +kernel
theorem dX5_copyFrom_24 : decode cX5_copyFrom 24 = .ok (.iconst 0, 1) := by decide +kernel
theorem dX5_copyFrom_25 : decode cX5_copyFrom 25 = .ok (.bipush 64, 2) := by decide +kernel
theorem dX5_copyFrom_27 : decode cX5_copyFrom 27 = .ok (.invokestatic 40, 3) := by decide +kernel
theorem dX5_copyFrom_30 : decode cX5_copyFrom 30 = .ok (.aload_n 0, 1) := by decide +kernel
theorem dX5_copyFrom_31 : decode cX5_copyFrom 31 = .ok (.aload_n 1, 1) := by decide +kernel
theorem dX5_copyFrom_32 : decode cX5_copyFrom 32 = .ok (.getfield 31, 3) := by decide +kernel
theorem dX5_copyFrom_35 : decode cX5_copyFrom 35 = .ok (.putfield 31, 3) := by decide +kernel
theorem dX5_copyFrom_38 : decode cX5_copyFrom 38 = .ok (.aload_n 0, 1) := by decide +kernel
theorem dX5_copyFrom_39 : decode cX5_copyFrom 39 = .ok (.aload_n 1, 1) := by decide +kernel
theorem dX5_copyFrom_40 : decode cX5_copyFrom 40 = .ok (.getfield 24, 3) := by decide +kernel
theorem dX5_copyFrom_43 : decode cX5_copyFrom 43 = .ok (.putfield 24, 3) := by decide +kernel
theorem dX5_copyFrom_46 : decode cX5_copyFrom 46 = .ok (.aload_n 0, 1) := by decide +kernel
theorem dX5_copyFrom_47 : decode cX5_copyFrom 47 = .ok (.aload_n 1, 1) := by decide +kernel
theorem dX5_copyFrom_48 : decode cX5_copyFrom 48 = .ok (.getfield 46, 3) := by decide +kernel
theorem dX5_copyFrom_51 : decode cX5_copyFrom 51 = .ok (.putfield 46, 3) := by decide +kernel
theorem dX5_copyFrom_54 : decode cX5_copyFrom 54 = .ok (.aload_n 0, 1) := by decide +kernel
theorem dX5_copyFrom_55 : decode cX5_copyFrom 55 = .ok (.aload_n 1, 1) := by decide +kernel
theorem dX5_copyFrom_56 : decode cX5_copyFrom 56 = .ok (.getfield 28, 3) := by decide +kernel
theorem dX5_copyFrom_59 : decode cX5_copyFrom 59 = .ok (.putfield 28, 3) := by decide +kernel
theorem dX5_copyFrom_62 : decode cX5_copyFrom 62 = .ok (.aload_n 0, 1) := by decide +kernel
theorem dX5_copyFrom_63 : decode cX5_copyFrom 63 = .ok (.aload_n 1, 1) := by decide +kernel
theorem dX5_copyFrom_64 : decode cX5_copyFrom 64 = .ok (.getfield 49, 3) := by decide +kernel
theorem dX5_copyFrom_67 : decode cX5_copyFrom 67 = .ok (.putfield 49, 3) := by decide +kernel
theorem dX5_copyFrom_70 : decode cX5_copyFrom 70 = .ok (.aload_n 0, 1) := by decide +kernel
theorem dX5_copyFrom_71 : decode cX5_copyFrom 71 = .ok (.aload_n 1, 1) := by decide +kernel
theorem dX5_copyFrom_72 : decode cX5_copyFrom 72 = .ok (.getfield 52, 3) := by decide +kernel
theorem dX5_copyFrom_75 : decode cX5_copyFrom 75 = .ok (.putfield 52, 3) := by decide +kernel
theorem dX5_copyFrom_78 : decode cX5_copyFrom 78 = .ok (.aload_n 0, 1) := by decide +kernel
theorem dX5_copyFrom_79 : decode cX5_copyFrom 79 = .ok (.aload_n 1, 1) := by decide +kernel
theorem dX5_copyFrom_80 : decode cX5_copyFrom 80 = .ok (.getfield 55, 3) := by decide +kernel
theorem dX5_copyFrom_83 : decode cX5_copyFrom 83 = .ok (.putfield 55, 3) := by decide +kernel
theorem dX5_copyFrom_86 : decode cX5_copyFrom 86 = .ok (.aload_n 0, 1) := by decide +kernel
theorem dX5_copyFrom_87 : decode cX5_copyFrom 87 = .ok (.aload_n 1, 1) := by decide +kernel
theorem dX5_copyFrom_88 : decode cX5_copyFrom 88 = .ok (.getfield 58, 3) := by decide +kernel
theorem dX5_copyFrom_91 : decode cX5_copyFrom 91 = .ok (.putfield 58, 3) := by decide +kernel
theorem dX5_copyFrom_94 : decode cX5_copyFrom 94 = .ok (.return_, 1) := by decide +kernel
set_option maxHeartbeats 4000000 in
set_option maxRecDepth 100000 in
theorem bX5_copyFrom {p : Program} {l : Launch} {e : Env} {s : State} {m : MethodId} {args : Array Value} {below : List Frame} {meth : Method} {c : Code} {D : va_G} {cB cC cI cO : ClassId} {A : Nat → Prop} (C0 : gC RX5 cX5_copyFrom 2 none p s m args meth c D (hTy cB cC cI cO) A) (h0 h1 h2 h3 h4 g0 g1 g2 g3 g4 : Nat) (out : Int32 × Int32 × Int32 × Int32 × Int32 × Int32 × Int32 × Int32 × (Nat → Int32) × (Nat → Int32)) (tcp : Int32) (tkd : Int32) (tsd : Int32) (tlm : Int32) (tfu : Int32) (ttb : Int32) (trb : Int32) (tgr : Int32) (tK : Nat → Int32) (tV : Nat → Int32) (tO : Nat → Int32) (tW : Nat → Int32) (ocp : Int32) (okd : Int32) (osd : Int32) (olm : Int32) (ofu : Int32) (otb : Int32) (orb : Int32) (ogr : Int32) (oK : Nat → Int32) (oV : Nat → Int32) (oO : Nat → Int32) (oW : Nat → Int32)  (hf : fX5_copyFrom tcp tkd tsd tlm tfu ttb trb tgr tK tV ocp okd osd olm ofu otb orb ogr oK oV = some out) : gG p l e rmX5_copyFrom s m args below meth c D A 2 (MQ below (hQv D [(h0, .inr (5, [.ref h1, .ref h2, .ref h3, .ref h4, .int out.1, .int out.2.1, .int out.2.2.1, .int out.2.2.2.1, .int out.2.2.2.2.1, .int out.2.2.2.2.2.1, .int out.2.2.2.2.2.2.1, .int out.2.2.2.2.2.2.2.1])), (h1, .inl (cI, 64, .inl out.2.2.2.2.2.2.2.2.1)), (h2, .inl (cI, 64, .inl out.2.2.2.2.2.2.2.2.2)), (h3, .inl (cI, 64, .inl tO)), (h4, .inl (cI, 64, .inl tW)), (g0, .inr (5, [.ref g1, .ref g2, .ref g3, .ref g4, .int ocp, .int okd, .int osd, .int olm, .int ofu, .int otb, .int orb, .int ogr])), (g1, .inl (cI, 64, .inl oK)), (g2, .inl (cI, 64, .inl oV)), (g3, .inl (cI, 64, .inl oO)), (g4, .inl (cI, 64, .inl oW))] A) args s 0 0 A) 0 0 0 [(0, .ref h0), (1, .ref g0)] [] [(h0, .inr (5, [.ref h1, .ref h2, .ref h3, .ref h4, .int tcp, .int tkd, .int tsd, .int tlm, .int tfu, .int ttb, .int trb, .int tgr])), (h1, .inl (cI, 64, .inl tK)), (h2, .inl (cI, 64, .inl tV)), (h3, .inl (cI, 64, .inl tO)), (h4, .inl (cI, 64, .inl tW)), (g0, .inr (5, [.ref g1, .ref g2, .ref g3, .ref g4, .int ocp, .int okd, .int osd, .int olm, .int ofu, .int otb, .int orb, .int ogr])), (g1, .inl (cI, 64, .inl oK)), (g2, .inl (cI, 64, .inl oV)), (g3, .inl (cI, 64, .inl oO)), (g4, .inl (cI, 64, .inl oW))] := by
  unfold fX5_copyFrom at hf
  refine g_aload_n C0 dX5_copyFrom_0 rfl 1 rfl ?_
  refine g_get C0 hinX5 5 rfl rfl 0 (by decide) q_60 rfl dX5_copyFrom_1 ?_
  refine g_iconst C0 (v := (0 : Int32)) dX5_copyFrom_4 (by decide) ?_
  refine g_aload_n C0 dX5_copyFrom_5 rfl 0 rfl ?_
  refine g_get C0 hinX5 0 rfl rfl 0 (by decide) q_60 rfl dX5_copyFrom_6 ?_
  refine g_iconst C0 (v := (0 : Int32)) dX5_copyFrom_9 (by decide) ?_
  refine g_bipush C0 (v := (64 : Int32)) dX5_copyFrom_10 (by decide) ?_
  refine g_copy C0 (ws' := [(h0, .inr (5, [.ref h1, .ref h2, .ref h3, .ref h4, .int tcp, .int tkd, .int tsd, .int tlm, .int tfu, .int ttb, .int trb, .int tgr])), (h1, .inl (cI, 64, .inl (va_cpy oK tK 0 0 64))), (h2, .inl (cI, 64, .inl tV)), (h3, .inl (cI, 64, .inl tO)), (h4, .inl (cI, 64, .inl tW)), (g0, .inr (5, [.ref g1, .ref g2, .ref g3, .ref g4, .int ocp, .int okd, .int osd, .int olm, .int ofu, .int otb, .int orb, .int ogr])), (g1, .inl (cI, 64, .inl oK)), (g2, .inl (cI, 64, .inl oV)), (g3, .inl (cI, 64, .inl oO)), (g4, .inl (cI, 64, .inl oW))]) (js := 0) (jd := 0) (jn := 64) q_589 q_591 q_590 q_23 6 1 1 1 rfl rfl rfl rfl (by decide) (by decide) (by decide) (by decide) (by decide) (by decide) (by decide) (by decide) (Nat.le_of_ble_eq_true rfl) (by decide) dX5_copyFrom_12 rfl ?_
  refine g_aload_n C0 dX5_copyFrom_15 rfl 1 rfl ?_
  refine g_get C0 hinX5 5 rfl rfl 1 (by decide) q_61 rfl dX5_copyFrom_16 ?_
  refine g_iconst C0 (v := (0 : Int32)) dX5_copyFrom_19 (by decide) ?_
  refine g_aload_n C0 dX5_copyFrom_20 rfl 0 rfl ?_
  refine g_get C0 hinX5 0 rfl rfl 1 (by decide) q_61 rfl dX5_copyFrom_21 ?_
  refine g_iconst C0 (v := (0 : Int32)) dX5_copyFrom_24 (by decide) ?_
  refine g_bipush C0 (v := (64 : Int32)) dX5_copyFrom_25 (by decide) ?_
  refine g_copy C0 (ws' := [(h0, .inr (5, [.ref h1, .ref h2, .ref h3, .ref h4, .int tcp, .int tkd, .int tsd, .int tlm, .int tfu, .int ttb, .int trb, .int tgr])), (h1, .inl (cI, 64, .inl (va_cpy oK tK 0 0 64))), (h2, .inl (cI, 64, .inl (va_cpy oV tV 0 0 64))), (h3, .inl (cI, 64, .inl tO)), (h4, .inl (cI, 64, .inl tW)), (g0, .inr (5, [.ref g1, .ref g2, .ref g3, .ref g4, .int ocp, .int okd, .int osd, .int olm, .int ofu, .int otb, .int orb, .int ogr])), (g1, .inl (cI, 64, .inl oK)), (g2, .inl (cI, 64, .inl oV)), (g3, .inl (cI, 64, .inl oO)), (g4, .inl (cI, 64, .inl oW))]) (js := 0) (jd := 0) (jn := 64) q_589 q_591 q_590 q_23 7 2 1 1 rfl rfl rfl rfl (by decide) (by decide) (by decide) (by decide) (by decide) (by decide) (by decide) (by decide) (Nat.le_of_ble_eq_true rfl) (by decide) dX5_copyFrom_27 rfl ?_
  refine g_aload_n C0 dX5_copyFrom_30 rfl 0 rfl ?_
  refine g_aload_n C0 dX5_copyFrom_31 rfl 1 rfl ?_
  refine g_get C0 hinX5 5 rfl rfl 4 (by decide) q_64 rfl dX5_copyFrom_32 ?_
  refine g_put C0 (ws' := [(h0, .inr (5, [.ref h1, .ref h2, .ref h3, .ref h4, .int ocp, .int tkd, .int tsd, .int tlm, .int tfu, .int ttb, .int trb, .int tgr])), (h1, .inl (cI, 64, .inl (va_cpy oK tK 0 0 64))), (h2, .inl (cI, 64, .inl (va_cpy oV tV 0 0 64))), (h3, .inl (cI, 64, .inl tO)), (h4, .inl (cI, 64, .inl tW)), (g0, .inr (5, [.ref g1, .ref g2, .ref g3, .ref g4, .int ocp, .int okd, .int osd, .int olm, .int ofu, .int otb, .int orb, .int ogr])), (g1, .inl (cI, 64, .inl oK)), (g2, .inl (cI, 64, .inl oV)), (g3, .inl (cI, 64, .inl oO)), (g4, .inl (cI, 64, .inl oW))]) hinX5 0 rfl rfl 4 (by decide) q_64 tyX5_ok nmX5 rfl rfl rfl (Nat.le_of_ble_eq_true rfl) rfl dX5_copyFrom_35 ?_
  refine g_aload_n C0 dX5_copyFrom_38 rfl 0 rfl ?_
  refine g_aload_n C0 dX5_copyFrom_39 rfl 1 rfl ?_
  refine g_get C0 hinX5 5 rfl rfl 5 (by decide) q_67 rfl dX5_copyFrom_40 ?_
  refine g_put C0 (ws' := [(h0, .inr (5, [.ref h1, .ref h2, .ref h3, .ref h4, .int ocp, .int okd, .int tsd, .int tlm, .int tfu, .int ttb, .int trb, .int tgr])), (h1, .inl (cI, 64, .inl (va_cpy oK tK 0 0 64))), (h2, .inl (cI, 64, .inl (va_cpy oV tV 0 0 64))), (h3, .inl (cI, 64, .inl tO)), (h4, .inl (cI, 64, .inl tW)), (g0, .inr (5, [.ref g1, .ref g2, .ref g3, .ref g4, .int ocp, .int okd, .int osd, .int olm, .int ofu, .int otb, .int orb, .int ogr])), (g1, .inl (cI, 64, .inl oK)), (g2, .inl (cI, 64, .inl oV)), (g3, .inl (cI, 64, .inl oO)), (g4, .inl (cI, 64, .inl oW))]) hinX5 0 rfl rfl 5 (by decide) q_67 tyX5_ok nmX5 rfl rfl rfl (Nat.le_of_ble_eq_true rfl) rfl dX5_copyFrom_43 ?_
  refine g_aload_n C0 dX5_copyFrom_46 rfl 0 rfl ?_
  refine g_aload_n C0 dX5_copyFrom_47 rfl 1 rfl ?_
  refine g_get C0 hinX5 5 rfl rfl 6 (by decide) q_69 rfl dX5_copyFrom_48 ?_
  refine g_put C0 (ws' := [(h0, .inr (5, [.ref h1, .ref h2, .ref h3, .ref h4, .int ocp, .int okd, .int osd, .int tlm, .int tfu, .int ttb, .int trb, .int tgr])), (h1, .inl (cI, 64, .inl (va_cpy oK tK 0 0 64))), (h2, .inl (cI, 64, .inl (va_cpy oV tV 0 0 64))), (h3, .inl (cI, 64, .inl tO)), (h4, .inl (cI, 64, .inl tW)), (g0, .inr (5, [.ref g1, .ref g2, .ref g3, .ref g4, .int ocp, .int okd, .int osd, .int olm, .int ofu, .int otb, .int orb, .int ogr])), (g1, .inl (cI, 64, .inl oK)), (g2, .inl (cI, 64, .inl oV)), (g3, .inl (cI, 64, .inl oO)), (g4, .inl (cI, 64, .inl oW))]) hinX5 0 rfl rfl 6 (by decide) q_69 tyX5_ok nmX5 rfl rfl rfl (Nat.le_of_ble_eq_true rfl) rfl dX5_copyFrom_51 ?_
  refine g_aload_n C0 dX5_copyFrom_54 rfl 0 rfl ?_
  refine g_aload_n C0 dX5_copyFrom_55 rfl 1 rfl ?_
  refine g_get C0 hinX5 5 rfl rfl 7 (by decide) q_71 rfl dX5_copyFrom_56 ?_
  refine g_put C0 (ws' := [(h0, .inr (5, [.ref h1, .ref h2, .ref h3, .ref h4, .int ocp, .int okd, .int osd, .int olm, .int tfu, .int ttb, .int trb, .int tgr])), (h1, .inl (cI, 64, .inl (va_cpy oK tK 0 0 64))), (h2, .inl (cI, 64, .inl (va_cpy oV tV 0 0 64))), (h3, .inl (cI, 64, .inl tO)), (h4, .inl (cI, 64, .inl tW)), (g0, .inr (5, [.ref g1, .ref g2, .ref g3, .ref g4, .int ocp, .int okd, .int osd, .int olm, .int ofu, .int otb, .int orb, .int ogr])), (g1, .inl (cI, 64, .inl oK)), (g2, .inl (cI, 64, .inl oV)), (g3, .inl (cI, 64, .inl oO)), (g4, .inl (cI, 64, .inl oW))]) hinX5 0 rfl rfl 7 (by decide) q_71 tyX5_ok nmX5 rfl rfl rfl (Nat.le_of_ble_eq_true rfl) rfl dX5_copyFrom_59 ?_
  refine g_aload_n C0 dX5_copyFrom_62 rfl 0 rfl ?_
  refine g_aload_n C0 dX5_copyFrom_63 rfl 1 rfl ?_
  refine g_get C0 hinX5 5 rfl rfl 8 (by decide) q_73 rfl dX5_copyFrom_64 ?_
  refine g_put C0 (ws' := [(h0, .inr (5, [.ref h1, .ref h2, .ref h3, .ref h4, .int ocp, .int okd, .int osd, .int olm, .int ofu, .int ttb, .int trb, .int tgr])), (h1, .inl (cI, 64, .inl (va_cpy oK tK 0 0 64))), (h2, .inl (cI, 64, .inl (va_cpy oV tV 0 0 64))), (h3, .inl (cI, 64, .inl tO)), (h4, .inl (cI, 64, .inl tW)), (g0, .inr (5, [.ref g1, .ref g2, .ref g3, .ref g4, .int ocp, .int okd, .int osd, .int olm, .int ofu, .int otb, .int orb, .int ogr])), (g1, .inl (cI, 64, .inl oK)), (g2, .inl (cI, 64, .inl oV)), (g3, .inl (cI, 64, .inl oO)), (g4, .inl (cI, 64, .inl oW))]) hinX5 0 rfl rfl 8 (by decide) q_73 tyX5_ok nmX5 rfl rfl rfl (Nat.le_of_ble_eq_true rfl) rfl dX5_copyFrom_67 ?_
  refine g_aload_n C0 dX5_copyFrom_70 rfl 0 rfl ?_
  refine g_aload_n C0 dX5_copyFrom_71 rfl 1 rfl ?_
  refine g_get C0 hinX5 5 rfl rfl 9 (by decide) q_75 rfl dX5_copyFrom_72 ?_
  refine g_put C0 (ws' := [(h0, .inr (5, [.ref h1, .ref h2, .ref h3, .ref h4, .int ocp, .int okd, .int osd, .int olm, .int ofu, .int otb, .int trb, .int tgr])), (h1, .inl (cI, 64, .inl (va_cpy oK tK 0 0 64))), (h2, .inl (cI, 64, .inl (va_cpy oV tV 0 0 64))), (h3, .inl (cI, 64, .inl tO)), (h4, .inl (cI, 64, .inl tW)), (g0, .inr (5, [.ref g1, .ref g2, .ref g3, .ref g4, .int ocp, .int okd, .int osd, .int olm, .int ofu, .int otb, .int orb, .int ogr])), (g1, .inl (cI, 64, .inl oK)), (g2, .inl (cI, 64, .inl oV)), (g3, .inl (cI, 64, .inl oO)), (g4, .inl (cI, 64, .inl oW))]) hinX5 0 rfl rfl 9 (by decide) q_75 tyX5_ok nmX5 rfl rfl rfl (Nat.le_of_ble_eq_true rfl) rfl dX5_copyFrom_75 ?_
  refine g_aload_n C0 dX5_copyFrom_78 rfl 0 rfl ?_
  refine g_aload_n C0 dX5_copyFrom_79 rfl 1 rfl ?_
  refine g_get C0 hinX5 5 rfl rfl 10 (by decide) q_77 rfl dX5_copyFrom_80 ?_
  refine g_put C0 (ws' := [(h0, .inr (5, [.ref h1, .ref h2, .ref h3, .ref h4, .int ocp, .int okd, .int osd, .int olm, .int ofu, .int otb, .int orb, .int tgr])), (h1, .inl (cI, 64, .inl (va_cpy oK tK 0 0 64))), (h2, .inl (cI, 64, .inl (va_cpy oV tV 0 0 64))), (h3, .inl (cI, 64, .inl tO)), (h4, .inl (cI, 64, .inl tW)), (g0, .inr (5, [.ref g1, .ref g2, .ref g3, .ref g4, .int ocp, .int okd, .int osd, .int olm, .int ofu, .int otb, .int orb, .int ogr])), (g1, .inl (cI, 64, .inl oK)), (g2, .inl (cI, 64, .inl oV)), (g3, .inl (cI, 64, .inl oO)), (g4, .inl (cI, 64, .inl oW))]) hinX5 0 rfl rfl 10 (by decide) q_77 tyX5_ok nmX5 rfl rfl rfl (Nat.le_of_ble_eq_true rfl) rfl dX5_copyFrom_83 ?_
  refine g_aload_n C0 dX5_copyFrom_86 rfl 0 rfl ?_
  refine g_aload_n C0 dX5_copyFrom_87 rfl 1 rfl ?_
  refine g_get C0 hinX5 5 rfl rfl 11 (by decide) q_79 rfl dX5_copyFrom_88 ?_
  refine g_put C0 (ws' := [(h0, .inr (5, [.ref h1, .ref h2, .ref h3, .ref h4, .int ocp, .int okd, .int osd, .int olm, .int ofu, .int otb, .int orb, .int ogr])), (h1, .inl (cI, 64, .inl (va_cpy oK tK 0 0 64))), (h2, .inl (cI, 64, .inl (va_cpy oV tV 0 0 64))), (h3, .inl (cI, 64, .inl tO)), (h4, .inl (cI, 64, .inl tW)), (g0, .inr (5, [.ref g1, .ref g2, .ref g3, .ref g4, .int ocp, .int okd, .int osd, .int olm, .int ofu, .int otb, .int orb, .int ogr])), (g1, .inl (cI, 64, .inl oK)), (g2, .inl (cI, 64, .inl oV)), (g3, .inl (cI, 64, .inl oO)), (g4, .inl (cI, 64, .inl oW))]) hinX5 0 rfl rfl 11 (by decide) q_79 tyX5_ok nmX5 rfl rfl rfl (Nat.le_of_ble_eq_true rfl) rfl dX5_copyFrom_91 ?_
  cases hf
  exact g_vret C0 dX5_copyFrom_94 rfl
theorem mX5_copyFrom (l : Launch) (D : va_G) (cB cC cI cO : ClassId)  (h0 h1 h2 h3 h4 g0 g1 g2 g3 g4 : Nat) (tcp : Int32) (tkd : Int32) (tsd : Int32) (tlm : Int32) (tfu : Int32) (ttb : Int32) (trb : Int32) (tgr : Int32) (tK : Nat → Int32) (tV : Nat → Int32) (tO : Nat → Int32) (tW : Nat → Int32) (ocp : Int32) (okd : Int32) (osd : Int32) (olm : Int32) (ofu : Int32) (otb : Int32) (orb : Int32) (ogr : Int32) (oK : Nat → Int32) (oV : Nat → Int32) (oO : Nat → Int32) (oW : Nat → Int32)  (out : Int32 × Int32 × Int32 × Int32 × Int32 × Int32 × Int32 × Int32 × (Nat → Int32) × (Nat → Int32)) (hf : fX5_copyFrom tcp tkd tsd tlm tfu ttb trb tgr tK tV ocp okd osd olm ofu otb orb ogr oK oV = some out) : ∀ sz, Met l yX5_copyFrom (ws_ yX5_copyFrom cX5_copyFrom 2 none) rmX5_copyFrom (va_Pc [.ref h0, .ref g0] (hPre D (hTy cB cC cI cO) [(h0, .inr (5, [.ref h1, .ref h2, .ref h3, .ref h4, .int tcp, .int tkd, .int tsd, .int tlm, .int tfu, .int ttb, .int trb, .int tgr])), (h1, .inl (cI, 64, .inl tK)), (h2, .inl (cI, 64, .inl tV)), (h3, .inl (cI, 64, .inl tO)), (h4, .inl (cI, 64, .inl tW)), (g0, .inr (5, [.ref g1, .ref g2, .ref g3, .ref g4, .int ocp, .int okd, .int osd, .int olm, .int ofu, .int otb, .int orb, .int ogr])), (g1, .inl (cI, 64, .inl oK)), (g2, .inl (cI, 64, .inl oV)), (g3, .inl (cI, 64, .inl oO)), (g4, .inl (cI, 64, .inl oW))] sz)) (hQv D [(h0, .inr (5, [.ref h1, .ref h2, .ref h3, .ref h4, .int out.1, .int out.2.1, .int out.2.2.1, .int out.2.2.2.1, .int out.2.2.2.2.1, .int out.2.2.2.2.2.1, .int out.2.2.2.2.2.2.1, .int out.2.2.2.2.2.2.2.1])), (h1, .inl (cI, 64, .inl out.2.2.2.2.2.2.2.2.1)), (h2, .inl (cI, 64, .inl out.2.2.2.2.2.2.2.2.2)), (h3, .inl (cI, 64, .inl tO)), (h4, .inl (cI, 64, .inl tW)), (g0, .inr (5, [.ref g1, .ref g2, .ref g3, .ref g4, .int ocp, .int okd, .int osd, .int olm, .int ofu, .int otb, .int orb, .int ogr])), (g1, .inl (cI, 64, .inl oK)), (g2, .inl (cI, 64, .inl oV)), (g3, .inl (cI, 64, .inl oO)), (g4, .inl (cI, 64, .inl oW))] (va_A [(h0, .inr (5, [.ref h1, .ref h2, .ref h3, .ref h4, .int tcp, .int tkd, .int tsd, .int tlm, .int tfu, .int ttb, .int trb, .int tgr])), (h1, .inl (cI, 64, .inl tK)), (h2, .inl (cI, 64, .inl tV)), (h3, .inl (cI, 64, .inl tO)), (h4, .inl (cI, 64, .inl tW)), (g0, .inr (5, [.ref g1, .ref g2, .ref g3, .ref g4, .int ocp, .int okd, .int osd, .int olm, .int ofu, .int otb, .int orb, .int ogr])), (g1, .inl (cI, 64, .inl oK)), (g2, .inl (cI, 64, .inl oV)), (g3, .inl (cI, 64, .inl oO)), (g4, .inl (cI, 64, .inl oW))] sz)) 0 0 (va_A [(h0, .inr (5, [.ref h1, .ref h2, .ref h3, .ref h4, .int tcp, .int tkd, .int tsd, .int tlm, .int tfu, .int ttb, .int trb, .int tgr])), (h1, .inl (cI, 64, .inl tK)), (h2, .inl (cI, 64, .inl tV)), (h3, .inl (cI, 64, .inl tO)), (h4, .inl (cI, 64, .inl tW)), (g0, .inr (5, [.ref g1, .ref g2, .ref g3, .ref g4, .int ocp, .int okd, .int osd, .int olm, .int ofu, .int otb, .int orb, .int ogr])), (g1, .inl (cI, 64, .inl oK)), (g2, .inl (cI, 64, .inl oV)), (g3, .inl (cI, 64, .inl oO)), (g4, .inl (cI, 64, .inl oW))] sz) :=
  g_met (Qf := fun A => hQv D [(h0, .inr (5, [.ref h1, .ref h2, .ref h3, .ref h4, .int out.1, .int out.2.1, .int out.2.2.1, .int out.2.2.2.1, .int out.2.2.2.2.1, .int out.2.2.2.2.2.1, .int out.2.2.2.2.2.2.1, .int out.2.2.2.2.2.2.2.1])), (h1, .inl (cI, 64, .inl out.2.2.2.2.2.2.2.2.1)), (h2, .inl (cI, 64, .inl out.2.2.2.2.2.2.2.2.2)), (h3, .inl (cI, 64, .inl tO)), (h4, .inl (cI, 64, .inl tW)), (g0, .inr (5, [.ref g1, .ref g2, .ref g3, .ref g4, .int ocp, .int okd, .int osd, .int olm, .int ofu, .int otb, .int orb, .int ogr])), (g1, .inl (cI, 64, .inl oK)), (g2, .inl (cI, 64, .inl oV)), (g3, .inl (cI, 64, .inl oO)), (g4, .inl (cI, 64, .inl oW))] A) (by decide +kernel) (Nat.le_of_ble_eq_true rfl) rfl (fun C0 => bX5_copyFrom C0 h0 h1 h2 h3 h4 g0 g1 g2 g3 g4 out tcp tkd tsd tlm tfu ttb trb tgr tK tV tO tW ocp okd osd olm ofu otb orb ogr oK oV oO oW  hf)
abbrev rmX5_empty : Room := { frames := 1, cells := 0, slots := 0, locals := 23 }
theorem hmX5_empty : hMV yX5_empty cX5_empty 2 none 1 := ⟨q_567, q_13, q_565, q_566, by decide, by decide, by decide +kernel⟩
theorem dX5_empty_0 : decode cX5_empty 0 = .ok (.aload_n 0, 1) := by decide +kernel
theorem dX5_empty_1 : decode cX5_empty 1 = .ok (.getfield 9, 3) := by decide +kernel
theorem dX5_empty_4 : decode cX5_empty 4 = .ok (.iconst (-1), 1) := by decide +kernel
theorem dX5_empty_5 : decode cX5_empty 5 = .ok (.invokestatic 34, 3) := by decide +kernel
theorem dX5_empty_8 : decode cX5_empty 8 = .ok (.aload_n 0, 1) := by decide +kernel
theorem dX5_empty_9 : decode cX5_empty 9 = .ok (.iload_n 1, 1) := by decide +kernel
theorem dX5_empty_10 : decode cX5_empty 10 = .ok (.putfield 31, 3) := by decide +kernel
theorem dX5_empty_13 : decode cX5_empty 13 = .ok (.aload_n 0, 1) := by decide +kernel
theorem dX5_empty_14 : decode cX5_empty 14 = .ok (.iconst 0, 1) := by decide +kernel
theorem dX5_empty_15 : decode cX5_empty 15 = .ok (.putfield 49, 3) := by decide +kernel
theorem dX5_empty_18 : decode cX5_empty 18 = .ok (.aload_n 0, 1) := by decide +kernel
theorem dX5_empty_19 : decode cX5_empty 19 = .ok (.iconst 0, 1) := by decide +kernel
theorem dX5_empty_20 : decode cX5_empty 20 = .ok (.putfield 52, 3) := by decide +kernel
theorem dX5_empty_23 : decode cX5_empty 23 = .ok (.return_, 1) := by decide +kernel
set_option maxHeartbeats 4000000 in
set_option maxRecDepth 100000 in
theorem bX5_empty {p : Program} {l : Launch} {e : Env} {s : State} {m : MethodId} {args : Array Value} {below : List Frame} {meth : Method} {c : Code} {D : va_G} {cB cC cI cO : ClassId} {A : Nat → Prop} (C0 : gC RX5 cX5_empty 2 none p s m args meth c D (hTy cB cC cI cO) A) (h0 h1 h2 h3 h4 : Nat) (out : Int32 × Int32 × Int32 × (Nat → Int32)) (tcp : Int32) (tkd : Int32) (tsd : Int32) (tlm : Int32) (tfu : Int32) (ttb : Int32) (trb : Int32) (tgr : Int32) (tK : Nat → Int32) (tV : Nat → Int32) (tO : Nat → Int32) (tW : Nat → Int32) (x0 : Int32) (hf : fX5_empty tcp tfu ttb tK x0 = some out) : gG p l e rmX5_empty s m args below meth c D A 2 (MQ below (hQv D [(h0, .inr (5, [.ref h1, .ref h2, .ref h3, .ref h4, .int out.1, .int tkd, .int tsd, .int tlm, .int out.2.1, .int out.2.2.1, .int trb, .int tgr])), (h1, .inl (cI, 64, .inl out.2.2.2)), (h2, .inl (cI, 64, .inl tV)), (h3, .inl (cI, 64, .inl tO)), (h4, .inl (cI, 64, .inl tW))] A) args s 0 0 A) 0 0 0 [(0, .ref h0), (1, .int x0)] [] [(h0, .inr (5, [.ref h1, .ref h2, .ref h3, .ref h4, .int tcp, .int tkd, .int tsd, .int tlm, .int tfu, .int ttb, .int trb, .int tgr])), (h1, .inl (cI, 64, .inl tK)), (h2, .inl (cI, 64, .inl tV)), (h3, .inl (cI, 64, .inl tO)), (h4, .inl (cI, 64, .inl tW))] := by
  unfold fX5_empty at hf
  refine g_aload_n C0 dX5_empty_0 rfl 0 rfl ?_
  refine g_get C0 hinX5 0 rfl rfl 0 (by decide) q_60 rfl dX5_empty_1 ?_
  refine g_iconst C0 (v := (-1 : Int32)) dX5_empty_4 (by decide) ?_
  obtain ⟨r1, er1, hf⟩ := hl_bd hf
  try dsimp only at hf
  refine g_callSv C0 (ws' := [(h0, .inr (5, [.ref h1, .ref h2, .ref h3, .ref h4, .int tcp, .int tkd, .int tsd, .int tlm, .int tfu, .int ttb, .int trb, .int tgr])), (h1, .inl (cI, 64, .inl r1)), (h2, .inl (cI, 64, .inl tV)), (h3, .inl (cI, 64, .inl tO)), (h4, .inl (cI, 64, .inl tW))]) (mJ7_fill_53178 l D cB cC cI cO 64 h1 tK (-1 : Int32) r1 er1) hmJ7_fill_53178 q_57 ⟨Nat.le_of_ble_eq_true rfl, Nat.le_of_ble_eq_true rfl⟩ ⟨Nat.le_of_ble_eq_true rfl, Nat.le_of_ble_eq_true rfl⟩ rfl rfl [1] rfl rfl rfl rfl rfl rfl (Nat.le_of_ble_eq_true rfl) dX5_empty_5 ?_
  refine g_aload_n C0 dX5_empty_8 rfl 0 rfl ?_
  refine g_iload_n C0 dX5_empty_9 rfl 1 rfl ?_
  refine g_put C0 (ws' := [(h0, .inr (5, [.ref h1, .ref h2, .ref h3, .ref h4, .int x0, .int tkd, .int tsd, .int tlm, .int tfu, .int ttb, .int trb, .int tgr])), (h1, .inl (cI, 64, .inl r1)), (h2, .inl (cI, 64, .inl tV)), (h3, .inl (cI, 64, .inl tO)), (h4, .inl (cI, 64, .inl tW))]) hinX5 0 rfl rfl 4 (by decide) q_64 tyX5_ok nmX5 rfl rfl rfl (Nat.le_of_ble_eq_true rfl) rfl dX5_empty_10 ?_
  refine g_aload_n C0 dX5_empty_13 rfl 0 rfl ?_
  refine g_iconst C0 (v := (0 : Int32)) dX5_empty_14 (by decide) ?_
  refine g_put C0 (ws' := [(h0, .inr (5, [.ref h1, .ref h2, .ref h3, .ref h4, .int x0, .int tkd, .int tsd, .int tlm, .int (0 : Int32), .int ttb, .int trb, .int tgr])), (h1, .inl (cI, 64, .inl r1)), (h2, .inl (cI, 64, .inl tV)), (h3, .inl (cI, 64, .inl tO)), (h4, .inl (cI, 64, .inl tW))]) hinX5 0 rfl rfl 8 (by decide) q_73 tyX5_ok nmX5 rfl rfl rfl (Nat.le_of_ble_eq_true rfl) rfl dX5_empty_15 ?_
  refine g_aload_n C0 dX5_empty_18 rfl 0 rfl ?_
  refine g_iconst C0 (v := (0 : Int32)) dX5_empty_19 (by decide) ?_
  refine g_put C0 (ws' := [(h0, .inr (5, [.ref h1, .ref h2, .ref h3, .ref h4, .int x0, .int tkd, .int tsd, .int tlm, .int (0 : Int32), .int (0 : Int32), .int trb, .int tgr])), (h1, .inl (cI, 64, .inl r1)), (h2, .inl (cI, 64, .inl tV)), (h3, .inl (cI, 64, .inl tO)), (h4, .inl (cI, 64, .inl tW))]) hinX5 0 rfl rfl 9 (by decide) q_75 tyX5_ok nmX5 rfl rfl rfl (Nat.le_of_ble_eq_true rfl) rfl dX5_empty_20 ?_
  cases hf
  exact g_vret C0 dX5_empty_23 rfl
theorem mX5_empty (l : Launch) (D : va_G) (cB cC cI cO : ClassId)  (h0 h1 h2 h3 h4 : Nat) (tcp : Int32) (tkd : Int32) (tsd : Int32) (tlm : Int32) (tfu : Int32) (ttb : Int32) (trb : Int32) (tgr : Int32) (tK : Nat → Int32) (tV : Nat → Int32) (tO : Nat → Int32) (tW : Nat → Int32) (x0 : Int32) (out : Int32 × Int32 × Int32 × (Nat → Int32)) (hf : fX5_empty tcp tfu ttb tK x0 = some out) : ∀ sz, Met l yX5_empty (ws_ yX5_empty cX5_empty 2 none) rmX5_empty (va_Pc [.ref h0, .int x0] (hPre D (hTy cB cC cI cO) [(h0, .inr (5, [.ref h1, .ref h2, .ref h3, .ref h4, .int tcp, .int tkd, .int tsd, .int tlm, .int tfu, .int ttb, .int trb, .int tgr])), (h1, .inl (cI, 64, .inl tK)), (h2, .inl (cI, 64, .inl tV)), (h3, .inl (cI, 64, .inl tO)), (h4, .inl (cI, 64, .inl tW))] sz)) (hQv D [(h0, .inr (5, [.ref h1, .ref h2, .ref h3, .ref h4, .int out.1, .int tkd, .int tsd, .int tlm, .int out.2.1, .int out.2.2.1, .int trb, .int tgr])), (h1, .inl (cI, 64, .inl out.2.2.2)), (h2, .inl (cI, 64, .inl tV)), (h3, .inl (cI, 64, .inl tO)), (h4, .inl (cI, 64, .inl tW))] (va_A [(h0, .inr (5, [.ref h1, .ref h2, .ref h3, .ref h4, .int tcp, .int tkd, .int tsd, .int tlm, .int tfu, .int ttb, .int trb, .int tgr])), (h1, .inl (cI, 64, .inl tK)), (h2, .inl (cI, 64, .inl tV)), (h3, .inl (cI, 64, .inl tO)), (h4, .inl (cI, 64, .inl tW))] sz)) 0 0 (va_A [(h0, .inr (5, [.ref h1, .ref h2, .ref h3, .ref h4, .int tcp, .int tkd, .int tsd, .int tlm, .int tfu, .int ttb, .int trb, .int tgr])), (h1, .inl (cI, 64, .inl tK)), (h2, .inl (cI, 64, .inl tV)), (h3, .inl (cI, 64, .inl tO)), (h4, .inl (cI, 64, .inl tW))] sz) :=
  g_met (Qf := fun A => hQv D [(h0, .inr (5, [.ref h1, .ref h2, .ref h3, .ref h4, .int out.1, .int tkd, .int tsd, .int tlm, .int out.2.1, .int out.2.2.1, .int trb, .int tgr])), (h1, .inl (cI, 64, .inl out.2.2.2)), (h2, .inl (cI, 64, .inl tV)), (h3, .inl (cI, 64, .inl tO)), (h4, .inl (cI, 64, .inl tW))] A) (by decide +kernel) (Nat.le_of_ble_eq_true rfl) rfl (fun C0 => bX5_empty C0 h0 h1 h2 h3 h4 out tcp tkd tsd tlm tfu ttb trb tgr tK tV tO tW x0 hf)
abbrev rmX5_beginTrial : Room := { frames := 2, cells := 0, slots := 0, locals := 44 }
theorem hmX5_beginTrial : hMV yX5_beginTrial cX5_beginTrial 4 none 3 := ⟨q_563, q_13, q_561, q_562, by decide, by decide, by decide +kernel⟩
theorem dX5_beginTrial_0 : decode cX5_beginTrial 0 = .ok (.aload_n 0, 1) := by decide +kernel
theorem dX5_beginTrial_1 : decode cX5_beginTrial 1 = .ok (.bipush 8, 2) := by decide +kernel
theorem dX5_beginTrial_3 : decode cX5_beginTrial 3 = .ok (.invokevirtual 61, 3) := by decide +kernel
theorem dX5_beginTrial_6 : decode cX5_beginTrial 6 = .ok (.aload_n 0, 1) := by decide +kernel
theorem dX5_beginTrial_7 : decode cX5_beginTrial 7 = .ok (.iload_n 1, 1) := by decide +kernel
theorem dX5_beginTrial_8 : decode cX5_beginTrial 8 = .ok (.putfield 24, 3) := by decide +kernel
theorem dX5_beginTrial_11 : decode cX5_beginTrial 11 = .ok (.aload_n 0, 1) := by decide +kernel
theorem dX5_beginTrial_12 : decode cX5_beginTrial 12 = .ok (.iload_n 2, 1) := by decide +kernel
theorem dX5_beginTrial_13 : decode cX5_beginTrial 13 = .ok (.putfield 46, 3) := by decide +kernel
theorem dX5_beginTrial_16 : decode cX5_beginTrial 16 = .ok (.aload_n 0, 1) := by decide +kernel
theorem dX5_beginTrial_17 : decode cX5_beginTrial 17 = .ok (.iload_n 3, 1) := by decide +kernel
theorem dX5_beginTrial_18 : decode cX5_beginTrial 18 = .ok (.putfield 28, 3) := by decide +kernel
theorem dX5_beginTrial_21 : decode cX5_beginTrial 21 = .ok (.return_, 1) := by decide +kernel
set_option maxHeartbeats 4000000 in
set_option maxRecDepth 100000 in
theorem bX5_beginTrial {p : Program} {l : Launch} {e : Env} {s : State} {m : MethodId} {args : Array Value} {below : List Frame} {meth : Method} {c : Code} {D : va_G} {cB cC cI cO : ClassId} {A : Nat → Prop} (C0 : gC RX5 cX5_beginTrial 4 none p s m args meth c D (hTy cB cC cI cO) A) (h0 h1 h2 h3 h4 : Nat) (out : Int32 × Int32 × Int32 × Int32 × Int32 × Int32 × (Nat → Int32)) (tcp : Int32) (tkd : Int32) (tsd : Int32) (tlm : Int32) (tfu : Int32) (ttb : Int32) (trb : Int32) (tgr : Int32) (tK : Nat → Int32) (tV : Nat → Int32) (tO : Nat → Int32) (tW : Nat → Int32) (x0 : Int32) (x1 : Int32) (x2 : Int32) (hf : fX5_beginTrial tcp tkd tsd tlm tfu ttb tK x0 x1 x2 = some out) : gG p l e rmX5_beginTrial s m args below meth c D A 4 (MQ below (hQv D [(h0, .inr (5, [.ref h1, .ref h2, .ref h3, .ref h4, .int out.1, .int out.2.1, .int out.2.2.1, .int out.2.2.2.1, .int out.2.2.2.2.1, .int out.2.2.2.2.2.1, .int trb, .int tgr])), (h1, .inl (cI, 64, .inl out.2.2.2.2.2.2)), (h2, .inl (cI, 64, .inl tV)), (h3, .inl (cI, 64, .inl tO)), (h4, .inl (cI, 64, .inl tW))] A) args s 0 0 A) 0 0 0 [(0, .ref h0), (1, .int x0), (2, .int x1), (3, .int x2)] [] [(h0, .inr (5, [.ref h1, .ref h2, .ref h3, .ref h4, .int tcp, .int tkd, .int tsd, .int tlm, .int tfu, .int ttb, .int trb, .int tgr])), (h1, .inl (cI, 64, .inl tK)), (h2, .inl (cI, 64, .inl tV)), (h3, .inl (cI, 64, .inl tO)), (h4, .inl (cI, 64, .inl tW))] := by
  unfold fX5_beginTrial at hf
  refine g_aload_n C0 dX5_beginTrial_0 rfl 0 rfl ?_
  refine g_bipush C0 (v := (8 : Int32)) dX5_beginTrial_1 (by decide) ?_
  obtain ⟨r1, er1, hf⟩ := hl_bd hf
  try dsimp only at hf
  refine g_callVv C0 (ws' := [(h0, .inr (5, [.ref h1, .ref h2, .ref h3, .ref h4, .int r1.1, .int tkd, .int tsd, .int tlm, .int r1.2.1, .int r1.2.2.1, .int trb, .int tgr])), (h1, .inl (cI, 64, .inl r1.2.2.2)), (h2, .inl (cI, 64, .inl tV)), (h3, .inl (cI, 64, .inl tO)), (h4, .inl (cI, 64, .inl tW))]) (mX5_empty l D cB cC cI cO  h0 h1 h2 h3 h4 tcp tkd tsd tlm tfu ttb trb tgr tK tV tO tW (8 : Int32) r1 er1) hmX5_empty q_564 ⟨Nat.le_of_ble_eq_true rfl, Nat.le_of_ble_eq_true rfl⟩ ⟨Nat.le_of_ble_eq_true rfl, Nat.le_of_ble_eq_true rfl⟩ rfl rfl [0, 1, 2, 3, 4] rfl rfl rfl rfl rfl 0 rfl rfl rfl (Nat.le_of_ble_eq_true rfl) dX5_beginTrial_3 ?_
  refine g_aload_n C0 dX5_beginTrial_6 rfl 0 rfl ?_
  refine g_iload_n C0 dX5_beginTrial_7 rfl 1 rfl ?_
  refine g_put C0 (ws' := [(h0, .inr (5, [.ref h1, .ref h2, .ref h3, .ref h4, .int r1.1, .int x0, .int tsd, .int tlm, .int r1.2.1, .int r1.2.2.1, .int trb, .int tgr])), (h1, .inl (cI, 64, .inl r1.2.2.2)), (h2, .inl (cI, 64, .inl tV)), (h3, .inl (cI, 64, .inl tO)), (h4, .inl (cI, 64, .inl tW))]) hinX5 0 rfl rfl 5 (by decide) q_67 tyX5_ok nmX5 rfl rfl rfl (Nat.le_of_ble_eq_true rfl) rfl dX5_beginTrial_8 ?_
  refine g_aload_n C0 dX5_beginTrial_11 rfl 0 rfl ?_
  refine g_iload_n C0 dX5_beginTrial_12 rfl 2 rfl ?_
  refine g_put C0 (ws' := [(h0, .inr (5, [.ref h1, .ref h2, .ref h3, .ref h4, .int r1.1, .int x0, .int x1, .int tlm, .int r1.2.1, .int r1.2.2.1, .int trb, .int tgr])), (h1, .inl (cI, 64, .inl r1.2.2.2)), (h2, .inl (cI, 64, .inl tV)), (h3, .inl (cI, 64, .inl tO)), (h4, .inl (cI, 64, .inl tW))]) hinX5 0 rfl rfl 6 (by decide) q_69 tyX5_ok nmX5 rfl rfl rfl (Nat.le_of_ble_eq_true rfl) rfl dX5_beginTrial_13 ?_
  refine g_aload_n C0 dX5_beginTrial_16 rfl 0 rfl ?_
  refine g_iload_n C0 dX5_beginTrial_17 rfl 3 rfl ?_
  refine g_put C0 (ws' := [(h0, .inr (5, [.ref h1, .ref h2, .ref h3, .ref h4, .int r1.1, .int x0, .int x1, .int x2, .int r1.2.1, .int r1.2.2.1, .int trb, .int tgr])), (h1, .inl (cI, 64, .inl r1.2.2.2)), (h2, .inl (cI, 64, .inl tV)), (h3, .inl (cI, 64, .inl tO)), (h4, .inl (cI, 64, .inl tW))]) hinX5 0 rfl rfl 7 (by decide) q_71 tyX5_ok nmX5 rfl rfl rfl (Nat.le_of_ble_eq_true rfl) rfl dX5_beginTrial_18 ?_
  cases hf
  exact g_vret C0 dX5_beginTrial_21 rfl
theorem mX5_beginTrial (l : Launch) (D : va_G) (cB cC cI cO : ClassId)  (h0 h1 h2 h3 h4 : Nat) (tcp : Int32) (tkd : Int32) (tsd : Int32) (tlm : Int32) (tfu : Int32) (ttb : Int32) (trb : Int32) (tgr : Int32) (tK : Nat → Int32) (tV : Nat → Int32) (tO : Nat → Int32) (tW : Nat → Int32) (x0 : Int32) (x1 : Int32) (x2 : Int32) (out : Int32 × Int32 × Int32 × Int32 × Int32 × Int32 × (Nat → Int32)) (hf : fX5_beginTrial tcp tkd tsd tlm tfu ttb tK x0 x1 x2 = some out) : ∀ sz, Met l yX5_beginTrial (ws_ yX5_beginTrial cX5_beginTrial 4 none) rmX5_beginTrial (va_Pc [.ref h0, .int x0, .int x1, .int x2] (hPre D (hTy cB cC cI cO) [(h0, .inr (5, [.ref h1, .ref h2, .ref h3, .ref h4, .int tcp, .int tkd, .int tsd, .int tlm, .int tfu, .int ttb, .int trb, .int tgr])), (h1, .inl (cI, 64, .inl tK)), (h2, .inl (cI, 64, .inl tV)), (h3, .inl (cI, 64, .inl tO)), (h4, .inl (cI, 64, .inl tW))] sz)) (hQv D [(h0, .inr (5, [.ref h1, .ref h2, .ref h3, .ref h4, .int out.1, .int out.2.1, .int out.2.2.1, .int out.2.2.2.1, .int out.2.2.2.2.1, .int out.2.2.2.2.2.1, .int trb, .int tgr])), (h1, .inl (cI, 64, .inl out.2.2.2.2.2.2)), (h2, .inl (cI, 64, .inl tV)), (h3, .inl (cI, 64, .inl tO)), (h4, .inl (cI, 64, .inl tW))] (va_A [(h0, .inr (5, [.ref h1, .ref h2, .ref h3, .ref h4, .int tcp, .int tkd, .int tsd, .int tlm, .int tfu, .int ttb, .int trb, .int tgr])), (h1, .inl (cI, 64, .inl tK)), (h2, .inl (cI, 64, .inl tV)), (h3, .inl (cI, 64, .inl tO)), (h4, .inl (cI, 64, .inl tW))] sz)) 0 0 (va_A [(h0, .inr (5, [.ref h1, .ref h2, .ref h3, .ref h4, .int tcp, .int tkd, .int tsd, .int tlm, .int tfu, .int ttb, .int trb, .int tgr])), (h1, .inl (cI, 64, .inl tK)), (h2, .inl (cI, 64, .inl tV)), (h3, .inl (cI, 64, .inl tO)), (h4, .inl (cI, 64, .inl tW))] sz) :=
  g_met (Qf := fun A => hQv D [(h0, .inr (5, [.ref h1, .ref h2, .ref h3, .ref h4, .int out.1, .int out.2.1, .int out.2.2.1, .int out.2.2.2.1, .int out.2.2.2.2.1, .int out.2.2.2.2.2.1, .int trb, .int tgr])), (h1, .inl (cI, 64, .inl out.2.2.2.2.2.2)), (h2, .inl (cI, 64, .inl tV)), (h3, .inl (cI, 64, .inl tO)), (h4, .inl (cI, 64, .inl tW))] A) (by decide +kernel) (Nat.le_of_ble_eq_true rfl) rfl (fun C0 => bX5_beginTrial C0 h0 h1 h2 h3 h4 out tcp tkd tsd tlm tfu ttb trb tgr tK tV tO tW x0 x1 x2 hf)
abbrev rmX5_hasSlot : Room := { frames := 0, cells := 0, slots := 0, locals := 0 }
theorem hmX5_hasSlot : hMV yX5_hasSlot cX5_hasSlot 2 (some .boolean) 1 := ⟨q_388, q_13, q_386, q_387, by decide, by decide, by decide +kernel⟩
theorem dX5_hasSlot_0 : decode cX5_hasSlot 0 = .ok (.iload_n 1, 1) := by decide +kernel
theorem dX5_hasSlot_1 : decode cX5_hasSlot 1 = .ok (.ifCond .lt 15, 3) := by decide +kernel
theorem dX5_hasSlot_4 : decode cX5_hasSlot 4 = .ok (.iload_n 1, 1) := by decide +kernel
theorem dX5_hasSlot_5 : decode cX5_hasSlot 5 = .ok (.aload_n 0, 1) := by decide +kernel
theorem dX5_hasSlot_6 : decode cX5_hasSlot 6 = .ok (.getfield 31, 3) := by decide +kernel
theorem dX5_hasSlot_9 : decode cX5_hasSlot 9 = .ok (.if_icmp .ge 7, 3) := by decide +kernel
theorem dX5_hasSlot_12 : decode cX5_hasSlot 12 = .ok (.iconst 1, 1) := by decide +kernel
theorem dX5_hasSlot_13 : decode cX5_hasSlot 13 = .ok (.goto 4, 3) := by decide +kernel
theorem dX5_hasSlot_16 : decode cX5_hasSlot 16 = .ok (.iconst 0, 1) := by decide +kernel
theorem dX5_hasSlot_17 : decode cX5_hasSlot 17 = .ok (.ireturn, 1) := by decide +kernel
set_option maxHeartbeats 4000000 in
set_option maxRecDepth 100000 in
theorem bX5_hasSlot {p : Program} {l : Launch} {e : Env} {s : State} {m : MethodId} {args : Array Value} {below : List Frame} {meth : Method} {c : Code} {D : va_G} {cB cC cI cO : ClassId} {A : Nat → Prop} (C0 : gC RX5 cX5_hasSlot 2 (some .boolean) p s m args meth c D (hTy cB cC cI cO) A) (h0 h1 h2 h3 h4 : Nat) (out : Int32) (tcp : Int32) (tkd : Int32) (tsd : Int32) (tlm : Int32) (tfu : Int32) (ttb : Int32) (trb : Int32) (tgr : Int32) (tK : Nat → Int32) (tV : Nat → Int32) (tO : Nat → Int32) (tW : Nat → Int32) (x0 : Int32) (hf : fX5_hasSlot tcp x0 = some out) : gG p l e rmX5_hasSlot s m args below meth c D A 2 (MQ below (hQi D [(h0, .inr (5, [.ref h1, .ref h2, .ref h3, .ref h4, .int tcp, .int tkd, .int tsd, .int tlm, .int tfu, .int ttb, .int trb, .int tgr])), (h1, .inl (cI, 64, .inl tK)), (h2, .inl (cI, 64, .inl tV)), (h3, .inl (cI, 64, .inl tO)), (h4, .inl (cI, 64, .inl tW))] out A) args s 0 0 A) 0 0 0 [(0, .ref h0), (1, .int x0)] [] [(h0, .inr (5, [.ref h1, .ref h2, .ref h3, .ref h4, .int tcp, .int tkd, .int tsd, .int tlm, .int tfu, .int ttb, .int trb, .int tgr])), (h1, .inl (cI, 64, .inl tK)), (h2, .inl (cI, 64, .inl tV)), (h3, .inl (cI, 64, .inl tO)), (h4, .inl (cI, 64, .inl tW))] := by
  unfold fX5_hasSlot at hf
  refine g_iload_n C0 dX5_hasSlot_0 rfl 1 rfl ?_
  refine g_if_lt C0 (tgt := 16) dX5_hasSlot_1 (by decide) (fun c1 => ?_) (fun c1 => ?_)
  · rw [if_pos c1] at hf
    refine g_iconst C0 (v := (0 : Int32)) dX5_hasSlot_16 (by decide) ?_
    cases hf
    exact g_iret C0 rfl dX5_hasSlot_17 rfl rfl
  · rw [if_neg c1] at hf
    refine g_iload_n C0 dX5_hasSlot_4 rfl 1 rfl ?_
    refine g_aload_n C0 dX5_hasSlot_5 rfl 0 rfl ?_
    refine g_get C0 hinX5 0 rfl rfl 4 (by decide) q_64 rfl dX5_hasSlot_6 ?_
    refine g_icmp_ge C0 (tgt := 16) dX5_hasSlot_9 (by decide) (fun c2 => ?_) (fun c2 => ?_)
    · rw [if_pos c2] at hf
      refine g_iconst C0 (v := (0 : Int32)) dX5_hasSlot_16 (by decide) ?_
      cases hf
      exact g_iret C0 rfl dX5_hasSlot_17 rfl rfl
    · rw [if_neg c2] at hf
      refine g_iconst C0 (v := (1 : Int32)) dX5_hasSlot_12 (by decide) ?_
      refine g_goto C0 (tgt := 17) dX5_hasSlot_13 (by decide) ?_
      cases hf
      exact g_iret C0 rfl dX5_hasSlot_17 rfl rfl
theorem mX5_hasSlot (l : Launch) (D : va_G) (cB cC cI cO : ClassId)  (h0 h1 h2 h3 h4 : Nat) (tcp : Int32) (tkd : Int32) (tsd : Int32) (tlm : Int32) (tfu : Int32) (ttb : Int32) (trb : Int32) (tgr : Int32) (tK : Nat → Int32) (tV : Nat → Int32) (tO : Nat → Int32) (tW : Nat → Int32) (x0 : Int32) (out : Int32) (hf : fX5_hasSlot tcp x0 = some out) : ∀ sz, Met l yX5_hasSlot (ws_ yX5_hasSlot cX5_hasSlot 2 (some .boolean)) rmX5_hasSlot (va_Pc [.ref h0, .int x0] (hPre D (hTy cB cC cI cO) [(h0, .inr (5, [.ref h1, .ref h2, .ref h3, .ref h4, .int tcp, .int tkd, .int tsd, .int tlm, .int tfu, .int ttb, .int trb, .int tgr])), (h1, .inl (cI, 64, .inl tK)), (h2, .inl (cI, 64, .inl tV)), (h3, .inl (cI, 64, .inl tO)), (h4, .inl (cI, 64, .inl tW))] sz)) (hQi D [(h0, .inr (5, [.ref h1, .ref h2, .ref h3, .ref h4, .int tcp, .int tkd, .int tsd, .int tlm, .int tfu, .int ttb, .int trb, .int tgr])), (h1, .inl (cI, 64, .inl tK)), (h2, .inl (cI, 64, .inl tV)), (h3, .inl (cI, 64, .inl tO)), (h4, .inl (cI, 64, .inl tW))] out (va_A [(h0, .inr (5, [.ref h1, .ref h2, .ref h3, .ref h4, .int tcp, .int tkd, .int tsd, .int tlm, .int tfu, .int ttb, .int trb, .int tgr])), (h1, .inl (cI, 64, .inl tK)), (h2, .inl (cI, 64, .inl tV)), (h3, .inl (cI, 64, .inl tO)), (h4, .inl (cI, 64, .inl tW))] sz)) 0 0 (va_A [(h0, .inr (5, [.ref h1, .ref h2, .ref h3, .ref h4, .int tcp, .int tkd, .int tsd, .int tlm, .int tfu, .int ttb, .int trb, .int tgr])), (h1, .inl (cI, 64, .inl tK)), (h2, .inl (cI, 64, .inl tV)), (h3, .inl (cI, 64, .inl tO)), (h4, .inl (cI, 64, .inl tW))] sz) :=
  g_met (Qf := fun A => hQi D [(h0, .inr (5, [.ref h1, .ref h2, .ref h3, .ref h4, .int tcp, .int tkd, .int tsd, .int tlm, .int tfu, .int ttb, .int trb, .int tgr])), (h1, .inl (cI, 64, .inl tK)), (h2, .inl (cI, 64, .inl tV)), (h3, .inl (cI, 64, .inl tO)), (h4, .inl (cI, 64, .inl tW))] out A) (by decide +kernel) (Nat.le_of_ble_eq_true rfl) rfl (fun C0 => bX5_hasSlot C0 h0 h1 h2 h3 h4 out tcp tkd tsd tlm tfu ttb trb tgr tK tV tO tW x0 hf)
abbrev rmX5_isInRows : Room := { frames := 0, cells := 0, slots := 0, locals := 0 }
theorem hmX5_isInRows : hMS yX5_isInRows cX5_isInRows 1 (some .boolean) 1 := ⟨q_280, q_13, q_279, by decide, by decide, by decide +kernel⟩
theorem dX5_isInRows_0 : decode cX5_isInRows 0 = .ok (.iload_n 0, 1) := by decide +kernel
theorem dX5_isInRows_1 : decode cX5_isInRows 1 = .ok (.ifCond .lt 13, 3) := by decide +kernel
theorem dX5_isInRows_4 : decode cX5_isInRows 4 = .ok (.iload_n 0, 1) := by decide +kernel
theorem dX5_isInRows_5 : decode cX5_isInRows 5 = .ok (.bipush 64, 2) := by decide +kernel
theorem dX5_isInRows_7 : decode cX5_isInRows 7 = .ok (.if_icmp .ge 7, 3) := by decide +kernel
theorem dX5_isInRows_10 : decode cX5_isInRows 10 = .ok (.iconst 1, 1) := by decide +kernel
theorem dX5_isInRows_11 : decode cX5_isInRows 11 = .ok (.goto 4, 3) := by decide +kernel
theorem dX5_isInRows_14 : decode cX5_isInRows 14 = .ok (.iconst 0, 1) := by decide +kernel
theorem dX5_isInRows_15 : decode cX5_isInRows 15 = .ok (.ireturn, 1) := by decide +kernel
set_option maxHeartbeats 4000000 in
set_option maxRecDepth 100000 in
theorem bX5_isInRows {p : Program} {l : Launch} {e : Env} {s : State} {m : MethodId} {args : Array Value} {below : List Frame} {meth : Method} {c : Code} {D : va_G} {cB cC cI cO : ClassId} {A : Nat → Prop} (C0 : gC RX5 cX5_isInRows 1 (some .boolean) p s m args meth c D (hTy cB cC cI cO) A)  (out : Int32)  (x0 : Int32) (hf : fX5_isInRows x0 = some out) : gG p l e rmX5_isInRows s m args below meth c D A 1 (MQ below (hQi D [] out A) args s 0 0 A) 0 0 0 [(0, .int x0)] [] [] := by
  unfold fX5_isInRows at hf
  refine g_iload_n C0 dX5_isInRows_0 rfl 0 rfl ?_
  refine g_if_lt C0 (tgt := 14) dX5_isInRows_1 (by decide) (fun c1 => ?_) (fun c1 => ?_)
  · rw [if_pos c1] at hf
    refine g_iconst C0 (v := (0 : Int32)) dX5_isInRows_14 (by decide) ?_
    cases hf
    exact g_iret C0 rfl dX5_isInRows_15 rfl rfl
  · rw [if_neg c1] at hf
    refine g_iload_n C0 dX5_isInRows_4 rfl 0 rfl ?_
    refine g_bipush C0 (v := (64 : Int32)) dX5_isInRows_5 (by decide) ?_
    refine g_icmp_ge C0 (tgt := 14) dX5_isInRows_7 (by decide) (fun c2 => ?_) (fun c2 => ?_)
    · rw [if_pos c2] at hf
      refine g_iconst C0 (v := (0 : Int32)) dX5_isInRows_14 (by decide) ?_
      cases hf
      exact g_iret C0 rfl dX5_isInRows_15 rfl rfl
    · rw [if_neg c2] at hf
      refine g_iconst C0 (v := (1 : Int32)) dX5_isInRows_10 (by decide) ?_
      refine g_goto C0 (tgt := 15) dX5_isInRows_11 (by decide) ?_
      cases hf
      exact g_iret C0 rfl dX5_isInRows_15 rfl rfl
theorem mX5_isInRows (l : Launch) (D : va_G) (cB cC cI cO : ClassId)    (x0 : Int32) (out : Int32) (hf : fX5_isInRows x0 = some out) : ∀ sz, Met l yX5_isInRows (ws_ yX5_isInRows cX5_isInRows 1 (some .boolean)) rmX5_isInRows (va_Pc [.int x0] (hPre D (hTy cB cC cI cO) [] sz)) (hQi D [] out (va_A [] sz)) 0 0 (va_A [] sz) :=
  g_met (Qf := fun A => hQi D [] out A) (by decide +kernel) (Nat.le_of_ble_eq_true rfl) rfl (fun C0 => bX5_isInRows C0  out  x0 hf)
abbrev rmX5_content : Room := { frames := 1, cells := 0, slots := 0, locals := 20 }
theorem hmX5_content : hMV yX5_content cX5_content 2 (some .int) 1 := ⟨q_277, q_13, q_275, q_276, by decide, by decide, by decide +kernel⟩
theorem dX5_content_0 : decode cX5_content 0 = .ok (.iload_n 1, 1) := by decide +kernel
theorem dX5_content_1 : decode cX5_content 1 = .ok (.invokestatic 65, 3) := by decide +kernel
theorem dX5_content_4 : decode cX5_content 4 = .ok (.ifCond .eq 12, 3) := by decide +kernel
theorem dX5_content_7 : decode cX5_content 7 = .ok (.aload_n 0, 1) := by decide +kernel
theorem dX5_content_8 : decode cX5_content 8 = .ok (.getfield 9, 3) := by decide +kernel
theorem dX5_content_11 : decode cX5_content 11 = .ok (.iload_n 1, 1) := by decide +kernel
theorem dX5_content_12 : decode cX5_content 12 = .ok (.iaload, 1) := by decide +kernel
theorem dX5_content_13 : decode cX5_content 13 = .ok (.goto 4, 3) := by decide +kernel
theorem dX5_content_16 : decode cX5_content 16 = .ok (.iconst (-1), 1) := by decide +kernel
theorem dX5_content_17 : decode cX5_content 17 = .ok (.ireturn, 1) := by decide +kernel
set_option maxHeartbeats 4000000 in
set_option maxRecDepth 100000 in
theorem bX5_content {p : Program} {l : Launch} {e : Env} {s : State} {m : MethodId} {args : Array Value} {below : List Frame} {meth : Method} {c : Code} {D : va_G} {cB cC cI cO : ClassId} {A : Nat → Prop} (C0 : gC RX5 cX5_content 2 (some .int) p s m args meth c D (hTy cB cC cI cO) A) (h0 h1 h2 h3 h4 : Nat) (out : Int32) (tcp : Int32) (tkd : Int32) (tsd : Int32) (tlm : Int32) (tfu : Int32) (ttb : Int32) (trb : Int32) (tgr : Int32) (tK : Nat → Int32) (tV : Nat → Int32) (tO : Nat → Int32) (tW : Nat → Int32) (x0 : Int32) (hf : fX5_content tK x0 = some out) : gG p l e rmX5_content s m args below meth c D A 2 (MQ below (hQi D [(h0, .inr (5, [.ref h1, .ref h2, .ref h3, .ref h4, .int tcp, .int tkd, .int tsd, .int tlm, .int tfu, .int ttb, .int trb, .int tgr])), (h1, .inl (cI, 64, .inl tK)), (h2, .inl (cI, 64, .inl tV)), (h3, .inl (cI, 64, .inl tO)), (h4, .inl (cI, 64, .inl tW))] out A) args s 0 0 A) 0 0 0 [(0, .ref h0), (1, .int x0)] [] [(h0, .inr (5, [.ref h1, .ref h2, .ref h3, .ref h4, .int tcp, .int tkd, .int tsd, .int tlm, .int tfu, .int ttb, .int trb, .int tgr])), (h1, .inl (cI, 64, .inl tK)), (h2, .inl (cI, 64, .inl tV)), (h3, .inl (cI, 64, .inl tO)), (h4, .inl (cI, 64, .inl tW))] := by
  unfold fX5_content at hf
  refine g_iload_n C0 dX5_content_0 rfl 1 rfl ?_
  obtain ⟨r1, er1, hf⟩ := hl_bd hf
  try dsimp only at hf
  refine g_callSi C0 (ws' := [(h0, .inr (5, [.ref h1, .ref h2, .ref h3, .ref h4, .int tcp, .int tkd, .int tsd, .int tlm, .int tfu, .int ttb, .int trb, .int tgr])), (h1, .inl (cI, 64, .inl tK)), (h2, .inl (cI, 64, .inl tV)), (h3, .inl (cI, 64, .inl tO)), (h4, .inl (cI, 64, .inl tW))]) (mX5_isInRows l D cB cC cI cO    x0 r1 er1) hmX5_isInRows q_278 ⟨Nat.le_of_ble_eq_true rfl, Nat.le_of_ble_eq_true rfl⟩ ⟨Nat.le_of_ble_eq_true rfl, Nat.le_of_ble_eq_true rfl⟩ rfl rfl [] rfl rfl rfl rfl rfl rfl (Nat.le_of_ble_eq_true rfl) dX5_content_1 ?_
  refine g_if_eq C0 (tgt := 16) dX5_content_4 (by decide) (fun c2 => ?_) (fun c2 => ?_)
  · rw [if_pos c2] at hf
    refine g_iconst C0 (v := (-1 : Int32)) dX5_content_16 (by decide) ?_
    cases hf
    exact g_iret C0 rfl dX5_content_17 rfl rfl
  · rw [if_neg c2] at hf
    refine g_aload_n C0 dX5_content_7 rfl 0 rfl ?_
    refine g_get C0 hinX5 0 rfl rfl 0 (by decide) q_60 rfl dX5_content_8 ?_
    refine g_iload_n C0 dX5_content_11 rfl 1 rfl ?_
    obtain ⟨i3, hf⟩ := hl_ifS hf
    refine g_iald C0 1 1 rfl rfl i3 rfl dX5_content_12 ?_
    refine g_goto C0 (tgt := 17) dX5_content_13 (by decide) ?_
    cases hf
    exact g_iret C0 rfl dX5_content_17 rfl rfl
theorem mX5_content (l : Launch) (D : va_G) (cB cC cI cO : ClassId)  (h0 h1 h2 h3 h4 : Nat) (tcp : Int32) (tkd : Int32) (tsd : Int32) (tlm : Int32) (tfu : Int32) (ttb : Int32) (trb : Int32) (tgr : Int32) (tK : Nat → Int32) (tV : Nat → Int32) (tO : Nat → Int32) (tW : Nat → Int32) (x0 : Int32) (out : Int32) (hf : fX5_content tK x0 = some out) : ∀ sz, Met l yX5_content (ws_ yX5_content cX5_content 2 (some .int)) rmX5_content (va_Pc [.ref h0, .int x0] (hPre D (hTy cB cC cI cO) [(h0, .inr (5, [.ref h1, .ref h2, .ref h3, .ref h4, .int tcp, .int tkd, .int tsd, .int tlm, .int tfu, .int ttb, .int trb, .int tgr])), (h1, .inl (cI, 64, .inl tK)), (h2, .inl (cI, 64, .inl tV)), (h3, .inl (cI, 64, .inl tO)), (h4, .inl (cI, 64, .inl tW))] sz)) (hQi D [(h0, .inr (5, [.ref h1, .ref h2, .ref h3, .ref h4, .int tcp, .int tkd, .int tsd, .int tlm, .int tfu, .int ttb, .int trb, .int tgr])), (h1, .inl (cI, 64, .inl tK)), (h2, .inl (cI, 64, .inl tV)), (h3, .inl (cI, 64, .inl tO)), (h4, .inl (cI, 64, .inl tW))] out (va_A [(h0, .inr (5, [.ref h1, .ref h2, .ref h3, .ref h4, .int tcp, .int tkd, .int tsd, .int tlm, .int tfu, .int ttb, .int trb, .int tgr])), (h1, .inl (cI, 64, .inl tK)), (h2, .inl (cI, 64, .inl tV)), (h3, .inl (cI, 64, .inl tO)), (h4, .inl (cI, 64, .inl tW))] sz)) 0 0 (va_A [(h0, .inr (5, [.ref h1, .ref h2, .ref h3, .ref h4, .int tcp, .int tkd, .int tsd, .int tlm, .int tfu, .int ttb, .int trb, .int tgr])), (h1, .inl (cI, 64, .inl tK)), (h2, .inl (cI, 64, .inl tV)), (h3, .inl (cI, 64, .inl tO)), (h4, .inl (cI, 64, .inl tW))] sz) :=
  g_met (Qf := fun A => hQi D [(h0, .inr (5, [.ref h1, .ref h2, .ref h3, .ref h4, .int tcp, .int tkd, .int tsd, .int tlm, .int tfu, .int ttb, .int trb, .int tgr])), (h1, .inl (cI, 64, .inl tK)), (h2, .inl (cI, 64, .inl tV)), (h3, .inl (cI, 64, .inl tO)), (h4, .inl (cI, 64, .inl tW))] out A) (by decide +kernel) (Nat.le_of_ble_eq_true rfl) rfl (fun C0 => bX5_content C0 h0 h1 h2 h3 h4 out tcp tkd tsd tlm tfu ttb trb tgr tK tV tO tW x0 hf)
abbrev rmX5_valueOf : Room := { frames := 1, cells := 0, slots := 0, locals := 20 }
theorem hmX5_valueOf : hMV yX5_valueOf cX5_valueOf 2 (some .int) 1 := ⟨q_359, q_13, q_357, q_358, by decide, by decide, by decide +kernel⟩
theorem dX5_valueOf_0 : decode cX5_valueOf 0 = .ok (.iload_n 1, 1) := by decide +kernel
theorem dX5_valueOf_1 : decode cX5_valueOf 1 = .ok (.invokestatic 65, 3) := by decide +kernel
theorem dX5_valueOf_4 : decode cX5_valueOf 4 = .ok (.ifCond .eq 12, 3) := by decide +kernel
theorem dX5_valueOf_7 : decode cX5_valueOf 7 = .ok (.aload_n 0, 1) := by decide +kernel
theorem dX5_valueOf_8 : decode cX5_valueOf 8 = .ok (.getfield 15, 3) := by decide +kernel
theorem dX5_valueOf_11 : decode cX5_valueOf 11 = .ok (.iload_n 1, 1) := by decide +kernel
theorem dX5_valueOf_12 : decode cX5_valueOf 12 = .ok (.iaload, 1) := by decide +kernel
theorem dX5_valueOf_13 : decode cX5_valueOf 13 = .ok (.goto 4, 3) := by decide +kernel
theorem dX5_valueOf_16 : decode cX5_valueOf 16 = .ok (.iconst 0, 1) := by decide +kernel
theorem dX5_valueOf_17 : decode cX5_valueOf 17 = .ok (.ireturn, 1) := by decide +kernel
set_option maxHeartbeats 4000000 in
set_option maxRecDepth 100000 in
theorem bX5_valueOf {p : Program} {l : Launch} {e : Env} {s : State} {m : MethodId} {args : Array Value} {below : List Frame} {meth : Method} {c : Code} {D : va_G} {cB cC cI cO : ClassId} {A : Nat → Prop} (C0 : gC RX5 cX5_valueOf 2 (some .int) p s m args meth c D (hTy cB cC cI cO) A) (h0 h1 h2 h3 h4 : Nat) (out : Int32) (tcp : Int32) (tkd : Int32) (tsd : Int32) (tlm : Int32) (tfu : Int32) (ttb : Int32) (trb : Int32) (tgr : Int32) (tK : Nat → Int32) (tV : Nat → Int32) (tO : Nat → Int32) (tW : Nat → Int32) (x0 : Int32) (hf : fX5_valueOf tV x0 = some out) : gG p l e rmX5_valueOf s m args below meth c D A 2 (MQ below (hQi D [(h0, .inr (5, [.ref h1, .ref h2, .ref h3, .ref h4, .int tcp, .int tkd, .int tsd, .int tlm, .int tfu, .int ttb, .int trb, .int tgr])), (h1, .inl (cI, 64, .inl tK)), (h2, .inl (cI, 64, .inl tV)), (h3, .inl (cI, 64, .inl tO)), (h4, .inl (cI, 64, .inl tW))] out A) args s 0 0 A) 0 0 0 [(0, .ref h0), (1, .int x0)] [] [(h0, .inr (5, [.ref h1, .ref h2, .ref h3, .ref h4, .int tcp, .int tkd, .int tsd, .int tlm, .int tfu, .int ttb, .int trb, .int tgr])), (h1, .inl (cI, 64, .inl tK)), (h2, .inl (cI, 64, .inl tV)), (h3, .inl (cI, 64, .inl tO)), (h4, .inl (cI, 64, .inl tW))] := by
  unfold fX5_valueOf at hf
  refine g_iload_n C0 dX5_valueOf_0 rfl 1 rfl ?_
  obtain ⟨r1, er1, hf⟩ := hl_bd hf
  try dsimp only at hf
  refine g_callSi C0 (ws' := [(h0, .inr (5, [.ref h1, .ref h2, .ref h3, .ref h4, .int tcp, .int tkd, .int tsd, .int tlm, .int tfu, .int ttb, .int trb, .int tgr])), (h1, .inl (cI, 64, .inl tK)), (h2, .inl (cI, 64, .inl tV)), (h3, .inl (cI, 64, .inl tO)), (h4, .inl (cI, 64, .inl tW))]) (mX5_isInRows l D cB cC cI cO    x0 r1 er1) hmX5_isInRows q_278 ⟨Nat.le_of_ble_eq_true rfl, Nat.le_of_ble_eq_true rfl⟩ ⟨Nat.le_of_ble_eq_true rfl, Nat.le_of_ble_eq_true rfl⟩ rfl rfl [] rfl rfl rfl rfl rfl rfl (Nat.le_of_ble_eq_true rfl) dX5_valueOf_1 ?_
  refine g_if_eq C0 (tgt := 16) dX5_valueOf_4 (by decide) (fun c2 => ?_) (fun c2 => ?_)
  · rw [if_pos c2] at hf
    refine g_iconst C0 (v := (0 : Int32)) dX5_valueOf_16 (by decide) ?_
    cases hf
    exact g_iret C0 rfl dX5_valueOf_17 rfl rfl
  · rw [if_neg c2] at hf
    refine g_aload_n C0 dX5_valueOf_7 rfl 0 rfl ?_
    refine g_get C0 hinX5 0 rfl rfl 1 (by decide) q_61 rfl dX5_valueOf_8 ?_
    refine g_iload_n C0 dX5_valueOf_11 rfl 1 rfl ?_
    obtain ⟨i3, hf⟩ := hl_ifS hf
    refine g_iald C0 2 1 rfl rfl i3 rfl dX5_valueOf_12 ?_
    refine g_goto C0 (tgt := 17) dX5_valueOf_13 (by decide) ?_
    cases hf
    exact g_iret C0 rfl dX5_valueOf_17 rfl rfl
theorem mX5_valueOf (l : Launch) (D : va_G) (cB cC cI cO : ClassId)  (h0 h1 h2 h3 h4 : Nat) (tcp : Int32) (tkd : Int32) (tsd : Int32) (tlm : Int32) (tfu : Int32) (ttb : Int32) (trb : Int32) (tgr : Int32) (tK : Nat → Int32) (tV : Nat → Int32) (tO : Nat → Int32) (tW : Nat → Int32) (x0 : Int32) (out : Int32) (hf : fX5_valueOf tV x0 = some out) : ∀ sz, Met l yX5_valueOf (ws_ yX5_valueOf cX5_valueOf 2 (some .int)) rmX5_valueOf (va_Pc [.ref h0, .int x0] (hPre D (hTy cB cC cI cO) [(h0, .inr (5, [.ref h1, .ref h2, .ref h3, .ref h4, .int tcp, .int tkd, .int tsd, .int tlm, .int tfu, .int ttb, .int trb, .int tgr])), (h1, .inl (cI, 64, .inl tK)), (h2, .inl (cI, 64, .inl tV)), (h3, .inl (cI, 64, .inl tO)), (h4, .inl (cI, 64, .inl tW))] sz)) (hQi D [(h0, .inr (5, [.ref h1, .ref h2, .ref h3, .ref h4, .int tcp, .int tkd, .int tsd, .int tlm, .int tfu, .int ttb, .int trb, .int tgr])), (h1, .inl (cI, 64, .inl tK)), (h2, .inl (cI, 64, .inl tV)), (h3, .inl (cI, 64, .inl tO)), (h4, .inl (cI, 64, .inl tW))] out (va_A [(h0, .inr (5, [.ref h1, .ref h2, .ref h3, .ref h4, .int tcp, .int tkd, .int tsd, .int tlm, .int tfu, .int ttb, .int trb, .int tgr])), (h1, .inl (cI, 64, .inl tK)), (h2, .inl (cI, 64, .inl tV)), (h3, .inl (cI, 64, .inl tO)), (h4, .inl (cI, 64, .inl tW))] sz)) 0 0 (va_A [(h0, .inr (5, [.ref h1, .ref h2, .ref h3, .ref h4, .int tcp, .int tkd, .int tsd, .int tlm, .int tfu, .int ttb, .int trb, .int tgr])), (h1, .inl (cI, 64, .inl tK)), (h2, .inl (cI, 64, .inl tV)), (h3, .inl (cI, 64, .inl tO)), (h4, .inl (cI, 64, .inl tW))] sz) :=
  g_met (Qf := fun A => hQi D [(h0, .inr (5, [.ref h1, .ref h2, .ref h3, .ref h4, .int tcp, .int tkd, .int tsd, .int tlm, .int tfu, .int ttb, .int trb, .int tgr])), (h1, .inl (cI, 64, .inl tK)), (h2, .inl (cI, 64, .inl tV)), (h3, .inl (cI, 64, .inl tO)), (h4, .inl (cI, 64, .inl tW))] out A) (by decide +kernel) (Nat.le_of_ble_eq_true rfl) rfl (fun C0 => bX5_valueOf C0 h0 h1 h2 h3 h4 out tcp tkd tsd tlm tfu ttb trb tgr tK tV tO tW x0 hf)
abbrev rmX5_isUsed : Room := { frames := 2, cells := 0, slots := 0, locals := 41 }
theorem hmX5_isUsed : hMV yX5_isUsed cX5_isUsed 2 (some .boolean) 1 := ⟨q_459, q_13, q_457, q_458, by decide, by decide, by decide +kernel⟩
theorem dX5_isUsed_0 : decode cX5_isUsed 0 = .ok (.aload_n 0, 1) := by decide +kernel
theorem dX5_isUsed_1 : decode cX5_isUsed 1 = .ok (.iload_n 1, 1) := by decide +kernel
theorem dX5_isUsed_2 : decode cX5_isUsed 2 = .ok (.invokevirtual 69, 3) := by decide +kernel
theorem dX5_isUsed_5 : decode cX5_isUsed 5 = .ok (.iconst (-1), 1) := by decide +kernel
theorem dX5_isUsed_6 : decode cX5_isUsed 6 = .ok (.if_icmp .eq 7, 3) := by decide +kernel
theorem dX5_isUsed_9 : decode cX5_isUsed 9 = .ok (.iconst 1, 1) := by decide +kernel
theorem dX5_isUsed_10 : decode cX5_isUsed 10 = .ok (.goto 4, 3) := by decide +kernel
theorem dX5_isUsed_13 : decode cX5_isUsed 13 = .ok (.iconst 0, 1) := by decide +kernel
theorem dX5_isUsed_14 : decode cX5_isUsed 14 = .ok (.ireturn, 1) := by decide +kernel
set_option maxHeartbeats 4000000 in
set_option maxRecDepth 100000 in
theorem bX5_isUsed {p : Program} {l : Launch} {e : Env} {s : State} {m : MethodId} {args : Array Value} {below : List Frame} {meth : Method} {c : Code} {D : va_G} {cB cC cI cO : ClassId} {A : Nat → Prop} (C0 : gC RX5 cX5_isUsed 2 (some .boolean) p s m args meth c D (hTy cB cC cI cO) A) (h0 h1 h2 h3 h4 : Nat) (out : Int32) (tcp : Int32) (tkd : Int32) (tsd : Int32) (tlm : Int32) (tfu : Int32) (ttb : Int32) (trb : Int32) (tgr : Int32) (tK : Nat → Int32) (tV : Nat → Int32) (tO : Nat → Int32) (tW : Nat → Int32) (x0 : Int32) (hf : fX5_isUsed tK x0 = some out) : gG p l e rmX5_isUsed s m args below meth c D A 2 (MQ below (hQi D [(h0, .inr (5, [.ref h1, .ref h2, .ref h3, .ref h4, .int tcp, .int tkd, .int tsd, .int tlm, .int tfu, .int ttb, .int trb, .int tgr])), (h1, .inl (cI, 64, .inl tK)), (h2, .inl (cI, 64, .inl tV)), (h3, .inl (cI, 64, .inl tO)), (h4, .inl (cI, 64, .inl tW))] out A) args s 0 0 A) 0 0 0 [(0, .ref h0), (1, .int x0)] [] [(h0, .inr (5, [.ref h1, .ref h2, .ref h3, .ref h4, .int tcp, .int tkd, .int tsd, .int tlm, .int tfu, .int ttb, .int trb, .int tgr])), (h1, .inl (cI, 64, .inl tK)), (h2, .inl (cI, 64, .inl tV)), (h3, .inl (cI, 64, .inl tO)), (h4, .inl (cI, 64, .inl tW))] := by
  unfold fX5_isUsed at hf
  refine g_aload_n C0 dX5_isUsed_0 rfl 0 rfl ?_
  refine g_iload_n C0 dX5_isUsed_1 rfl 1 rfl ?_
  obtain ⟨r1, er1, hf⟩ := hl_bd hf
  try dsimp only at hf
  refine g_callVi C0 (ws' := [(h0, .inr (5, [.ref h1, .ref h2, .ref h3, .ref h4, .int tcp, .int tkd, .int tsd, .int tlm, .int tfu, .int ttb, .int trb, .int tgr])), (h1, .inl (cI, 64, .inl tK)), (h2, .inl (cI, 64, .inl tV)), (h3, .inl (cI, 64, .inl tO)), (h4, .inl (cI, 64, .inl tW))]) (mX5_content l D cB cC cI cO  h0 h1 h2 h3 h4 tcp tkd tsd tlm tfu ttb trb tgr tK tV tO tW x0 r1 er1) hmX5_content q_274 ⟨Nat.le_of_ble_eq_true rfl, Nat.le_of_ble_eq_true rfl⟩ ⟨Nat.le_of_ble_eq_true rfl, Nat.le_of_ble_eq_true rfl⟩ rfl rfl [0, 1, 2, 3, 4] rfl rfl rfl rfl rfl 0 rfl rfl rfl (Nat.le_of_ble_eq_true rfl) dX5_isUsed_2 ?_
  refine g_iconst C0 (v := (-1 : Int32)) dX5_isUsed_5 (by decide) ?_
  refine g_icmp_eq C0 (tgt := 13) dX5_isUsed_6 (by decide) (fun c2 => ?_) (fun c2 => ?_)
  · rw [if_pos c2] at hf
    refine g_iconst C0 (v := (0 : Int32)) dX5_isUsed_13 (by decide) ?_
    cases hf
    exact g_iret C0 rfl dX5_isUsed_14 rfl rfl
  · rw [if_neg c2] at hf
    refine g_iconst C0 (v := (1 : Int32)) dX5_isUsed_9 (by decide) ?_
    refine g_goto C0 (tgt := 14) dX5_isUsed_10 (by decide) ?_
    cases hf
    exact g_iret C0 rfl dX5_isUsed_14 rfl rfl
theorem mX5_isUsed (l : Launch) (D : va_G) (cB cC cI cO : ClassId)  (h0 h1 h2 h3 h4 : Nat) (tcp : Int32) (tkd : Int32) (tsd : Int32) (tlm : Int32) (tfu : Int32) (ttb : Int32) (trb : Int32) (tgr : Int32) (tK : Nat → Int32) (tV : Nat → Int32) (tO : Nat → Int32) (tW : Nat → Int32) (x0 : Int32) (out : Int32) (hf : fX5_isUsed tK x0 = some out) : ∀ sz, Met l yX5_isUsed (ws_ yX5_isUsed cX5_isUsed 2 (some .boolean)) rmX5_isUsed (va_Pc [.ref h0, .int x0] (hPre D (hTy cB cC cI cO) [(h0, .inr (5, [.ref h1, .ref h2, .ref h3, .ref h4, .int tcp, .int tkd, .int tsd, .int tlm, .int tfu, .int ttb, .int trb, .int tgr])), (h1, .inl (cI, 64, .inl tK)), (h2, .inl (cI, 64, .inl tV)), (h3, .inl (cI, 64, .inl tO)), (h4, .inl (cI, 64, .inl tW))] sz)) (hQi D [(h0, .inr (5, [.ref h1, .ref h2, .ref h3, .ref h4, .int tcp, .int tkd, .int tsd, .int tlm, .int tfu, .int ttb, .int trb, .int tgr])), (h1, .inl (cI, 64, .inl tK)), (h2, .inl (cI, 64, .inl tV)), (h3, .inl (cI, 64, .inl tO)), (h4, .inl (cI, 64, .inl tW))] out (va_A [(h0, .inr (5, [.ref h1, .ref h2, .ref h3, .ref h4, .int tcp, .int tkd, .int tsd, .int tlm, .int tfu, .int ttb, .int trb, .int tgr])), (h1, .inl (cI, 64, .inl tK)), (h2, .inl (cI, 64, .inl tV)), (h3, .inl (cI, 64, .inl tO)), (h4, .inl (cI, 64, .inl tW))] sz)) 0 0 (va_A [(h0, .inr (5, [.ref h1, .ref h2, .ref h3, .ref h4, .int tcp, .int tkd, .int tsd, .int tlm, .int tfu, .int ttb, .int trb, .int tgr])), (h1, .inl (cI, 64, .inl tK)), (h2, .inl (cI, 64, .inl tV)), (h3, .inl (cI, 64, .inl tO)), (h4, .inl (cI, 64, .inl tW))] sz) :=
  g_met (Qf := fun A => hQi D [(h0, .inr (5, [.ref h1, .ref h2, .ref h3, .ref h4, .int tcp, .int tkd, .int tsd, .int tlm, .int tfu, .int ttb, .int trb, .int tgr])), (h1, .inl (cI, 64, .inl tK)), (h2, .inl (cI, 64, .inl tV)), (h3, .inl (cI, 64, .inl tO)), (h4, .inl (cI, 64, .inl tW))] out A) (by decide +kernel) (Nat.le_of_ble_eq_true rfl) rfl (fun C0 => bX5_isUsed C0 h0 h1 h2 h3 h4 out tcp tkd tsd tlm tfu ttb trb tgr tK tV tO tW x0 hf)
abbrev rmX5_isFullSlot : Room := { frames := 2, cells := 0, slots := 0, locals := 41 }
theorem hmX5_isFullSlot : hMV yX5_isFullSlot cX5_isFullSlot 2 (some .boolean) 1 := ⟨q_437, q_13, q_435, q_436, by decide, by decide, by decide +kernel⟩
theorem dX5_isFullSlot_0 : decode cX5_isFullSlot 0 = .ok (.aload_n 0, 1) := by decide +kernel
theorem dX5_isFullSlot_1 : decode cX5_isFullSlot 1 = .ok (.iload_n 1, 1) := by decide +kernel
theorem dX5_isFullSlot_2 : decode cX5_isFullSlot 2 = .ok (.invokevirtual 69, 3) := by decide +kernel
theorem dX5_isFullSlot_5 : decode cX5_isFullSlot 5 = .ok (.ifCond .lt 7, 3) := by decide +kernel
theorem dX5_isFullSlot_8 : decode cX5_isFullSlot 8 = .ok (.iconst 1, 1) := by decide +kernel
theorem dX5_isFullSlot_9 : decode cX5_isFullSlot 9 = .ok (.goto 4, 3) := by decide +kernel
theorem dX5_isFullSlot_12 : decode cX5_isFullSlot 12 = .ok (.iconst 0, 1) := by decide +kernel
theorem dX5_isFullSlot_13 : decode cX5_isFullSlot 13 = .ok (.ireturn, 1) := by decide +kernel
set_option maxHeartbeats 4000000 in
set_option maxRecDepth 100000 in
theorem bX5_isFullSlot {p : Program} {l : Launch} {e : Env} {s : State} {m : MethodId} {args : Array Value} {below : List Frame} {meth : Method} {c : Code} {D : va_G} {cB cC cI cO : ClassId} {A : Nat → Prop} (C0 : gC RX5 cX5_isFullSlot 2 (some .boolean) p s m args meth c D (hTy cB cC cI cO) A) (h0 h1 h2 h3 h4 : Nat) (out : Int32) (tcp : Int32) (tkd : Int32) (tsd : Int32) (tlm : Int32) (tfu : Int32) (ttb : Int32) (trb : Int32) (tgr : Int32) (tK : Nat → Int32) (tV : Nat → Int32) (tO : Nat → Int32) (tW : Nat → Int32) (x0 : Int32) (hf : fX5_isFullSlot tK x0 = some out) : gG p l e rmX5_isFullSlot s m args below meth c D A 2 (MQ below (hQi D [(h0, .inr (5, [.ref h1, .ref h2, .ref h3, .ref h4, .int tcp, .int tkd, .int tsd, .int tlm, .int tfu, .int ttb, .int trb, .int tgr])), (h1, .inl (cI, 64, .inl tK)), (h2, .inl (cI, 64, .inl tV)), (h3, .inl (cI, 64, .inl tO)), (h4, .inl (cI, 64, .inl tW))] out A) args s 0 0 A) 0 0 0 [(0, .ref h0), (1, .int x0)] [] [(h0, .inr (5, [.ref h1, .ref h2, .ref h3, .ref h4, .int tcp, .int tkd, .int tsd, .int tlm, .int tfu, .int ttb, .int trb, .int tgr])), (h1, .inl (cI, 64, .inl tK)), (h2, .inl (cI, 64, .inl tV)), (h3, .inl (cI, 64, .inl tO)), (h4, .inl (cI, 64, .inl tW))] := by
  unfold fX5_isFullSlot at hf
  refine g_aload_n C0 dX5_isFullSlot_0 rfl 0 rfl ?_
  refine g_iload_n C0 dX5_isFullSlot_1 rfl 1 rfl ?_
  obtain ⟨r1, er1, hf⟩ := hl_bd hf
  try dsimp only at hf
  refine g_callVi C0 (ws' := [(h0, .inr (5, [.ref h1, .ref h2, .ref h3, .ref h4, .int tcp, .int tkd, .int tsd, .int tlm, .int tfu, .int ttb, .int trb, .int tgr])), (h1, .inl (cI, 64, .inl tK)), (h2, .inl (cI, 64, .inl tV)), (h3, .inl (cI, 64, .inl tO)), (h4, .inl (cI, 64, .inl tW))]) (mX5_content l D cB cC cI cO  h0 h1 h2 h3 h4 tcp tkd tsd tlm tfu ttb trb tgr tK tV tO tW x0 r1 er1) hmX5_content q_274 ⟨Nat.le_of_ble_eq_true rfl, Nat.le_of_ble_eq_true rfl⟩ ⟨Nat.le_of_ble_eq_true rfl, Nat.le_of_ble_eq_true rfl⟩ rfl rfl [0, 1, 2, 3, 4] rfl rfl rfl rfl rfl 0 rfl rfl rfl (Nat.le_of_ble_eq_true rfl) dX5_isFullSlot_2 ?_
  refine g_if_lt C0 (tgt := 12) dX5_isFullSlot_5 (by decide) (fun c2 => ?_) (fun c2 => ?_)
  · rw [if_pos c2] at hf
    refine g_iconst C0 (v := (0 : Int32)) dX5_isFullSlot_12 (by decide) ?_
    cases hf
    exact g_iret C0 rfl dX5_isFullSlot_13 rfl rfl
  · rw [if_neg c2] at hf
    refine g_iconst C0 (v := (1 : Int32)) dX5_isFullSlot_8 (by decide) ?_
    refine g_goto C0 (tgt := 13) dX5_isFullSlot_9 (by decide) ?_
    cases hf
    exact g_iret C0 rfl dX5_isFullSlot_13 rfl rfl
theorem mX5_isFullSlot (l : Launch) (D : va_G) (cB cC cI cO : ClassId)  (h0 h1 h2 h3 h4 : Nat) (tcp : Int32) (tkd : Int32) (tsd : Int32) (tlm : Int32) (tfu : Int32) (ttb : Int32) (trb : Int32) (tgr : Int32) (tK : Nat → Int32) (tV : Nat → Int32) (tO : Nat → Int32) (tW : Nat → Int32) (x0 : Int32) (out : Int32) (hf : fX5_isFullSlot tK x0 = some out) : ∀ sz, Met l yX5_isFullSlot (ws_ yX5_isFullSlot cX5_isFullSlot 2 (some .boolean)) rmX5_isFullSlot (va_Pc [.ref h0, .int x0] (hPre D (hTy cB cC cI cO) [(h0, .inr (5, [.ref h1, .ref h2, .ref h3, .ref h4, .int tcp, .int tkd, .int tsd, .int tlm, .int tfu, .int ttb, .int trb, .int tgr])), (h1, .inl (cI, 64, .inl tK)), (h2, .inl (cI, 64, .inl tV)), (h3, .inl (cI, 64, .inl tO)), (h4, .inl (cI, 64, .inl tW))] sz)) (hQi D [(h0, .inr (5, [.ref h1, .ref h2, .ref h3, .ref h4, .int tcp, .int tkd, .int tsd, .int tlm, .int tfu, .int ttb, .int trb, .int tgr])), (h1, .inl (cI, 64, .inl tK)), (h2, .inl (cI, 64, .inl tV)), (h3, .inl (cI, 64, .inl tO)), (h4, .inl (cI, 64, .inl tW))] out (va_A [(h0, .inr (5, [.ref h1, .ref h2, .ref h3, .ref h4, .int tcp, .int tkd, .int tsd, .int tlm, .int tfu, .int ttb, .int trb, .int tgr])), (h1, .inl (cI, 64, .inl tK)), (h2, .inl (cI, 64, .inl tV)), (h3, .inl (cI, 64, .inl tO)), (h4, .inl (cI, 64, .inl tW))] sz)) 0 0 (va_A [(h0, .inr (5, [.ref h1, .ref h2, .ref h3, .ref h4, .int tcp, .int tkd, .int tsd, .int tlm, .int tfu, .int ttb, .int trb, .int tgr])), (h1, .inl (cI, 64, .inl tK)), (h2, .inl (cI, 64, .inl tV)), (h3, .inl (cI, 64, .inl tO)), (h4, .inl (cI, 64, .inl tW))] sz) :=
  g_met (Qf := fun A => hQi D [(h0, .inr (5, [.ref h1, .ref h2, .ref h3, .ref h4, .int tcp, .int tkd, .int tsd, .int tlm, .int tfu, .int ttb, .int trb, .int tgr])), (h1, .inl (cI, 64, .inl tK)), (h2, .inl (cI, 64, .inl tV)), (h3, .inl (cI, 64, .inl tO)), (h4, .inl (cI, 64, .inl tW))] out A) (by decide +kernel) (Nat.le_of_ble_eq_true rfl) rfl (fun C0 => bX5_isFullSlot C0 h0 h1 h2 h3 h4 out tcp tkd tsd tlm tfu ttb trb tgr tK tV tO tW x0 hf)
abbrev rmX5_hashOf : Room := { frames := 0, cells := 0, slots := 0, locals := 0 }
theorem hmX5_hashOf : hMV yX5_hashOf cX5_hashOf 2 (some .int) 1 := ⟨q_259, q_13, q_257, q_258, by decide, by decide, by decide +kernel⟩
theorem dX5_hashOf_0 : decode cX5_hashOf 0 = .ok (.ldc 73, 2) := by decide +kernel
theorem dX5_hashOf_2 : decode cX5_hashOf 2 = .ok (.iload_n 1, 1) := by decide +kernel
theorem dX5_hashOf_3 : decode cX5_hashOf 3 = .ok (.imul, 1) := by decide +kernel
theorem dX5_hashOf_4 : decode cX5_hashOf 4 = .ok (.sipush 9973, 3) := by decide +kernel
theorem dX5_hashOf_7 : decode cX5_hashOf 7 = .ok (.aload_n 0, 1) := by decide +kernel
theorem dX5_hashOf_8 : decode cX5_hashOf 8 = .ok (.getfield 46, 3) := by decide +kernel
theorem dX5_hashOf_11 : decode cX5_hashOf 11 = .ok (.imul, 1) := by decide +kernel
theorem dX5_hashOf_12 : decode cX5_hashOf 12 = .ok (.iadd, 1) := by decide +kernel
theorem dX5_hashOf_13 : decode cX5_hashOf 13 = .ok (.ldc 74, 2) := by decide +kernel
theorem dX5_hashOf_15 : decode cX5_hashOf 15 = .ok (.irem, 1) := by decide +kernel
theorem dX5_hashOf_16 : decode cX5_hashOf 16 = .ok (.ireturn, 1) := by decide +kernel
set_option maxHeartbeats 4000000 in
set_option maxRecDepth 100000 in
theorem bX5_hashOf {p : Program} {l : Launch} {e : Env} {s : State} {m : MethodId} {args : Array Value} {below : List Frame} {meth : Method} {c : Code} {D : va_G} {cB cC cI cO : ClassId} {A : Nat → Prop} (C0 : gC RX5 cX5_hashOf 2 (some .int) p s m args meth c D (hTy cB cC cI cO) A) (h0 h1 h2 h3 h4 : Nat) (out : Int32) (tcp : Int32) (tkd : Int32) (tsd : Int32) (tlm : Int32) (tfu : Int32) (ttb : Int32) (trb : Int32) (tgr : Int32) (tK : Nat → Int32) (tV : Nat → Int32) (tO : Nat → Int32) (tW : Nat → Int32) (x0 : Int32) (hf : fX5_hashOf tsd x0 = some out) : gG p l e rmX5_hashOf s m args below meth c D A 2 (MQ below (hQi D [(h0, .inr (5, [.ref h1, .ref h2, .ref h3, .ref h4, .int tcp, .int tkd, .int tsd, .int tlm, .int tfu, .int ttb, .int trb, .int tgr])), (h1, .inl (cI, 64, .inl tK)), (h2, .inl (cI, 64, .inl tV)), (h3, .inl (cI, 64, .inl tO)), (h4, .inl (cI, 64, .inl tW))] out A) args s 0 0 A) 0 0 0 [(0, .ref h0), (1, .int x0)] [] [(h0, .inr (5, [.ref h1, .ref h2, .ref h3, .ref h4, .int tcp, .int tkd, .int tsd, .int tlm, .int tfu, .int ttb, .int trb, .int tgr])), (h1, .inl (cI, 64, .inl tK)), (h2, .inl (cI, 64, .inl tV)), (h3, .inl (cI, 64, .inl tO)), (h4, .inl (cI, 64, .inl tW))] := by
  unfold fX5_hashOf at hf
  refine g_ldc C0 dX5_hashOf_0 q_260 ?_
  refine g_iload_n C0 dX5_hashOf_2 rfl 1 rfl ?_
  refine g_imul C0 dX5_hashOf_3 ?_
  refine g_sipush C0 (v := (9973 : Int32)) dX5_hashOf_4 (by decide) ?_
  refine g_aload_n C0 dX5_hashOf_7 rfl 0 rfl ?_
  refine g_get C0 hinX5 0 rfl rfl 6 (by decide) q_69 rfl dX5_hashOf_8 ?_
  refine g_imul C0 dX5_hashOf_11 ?_
  refine g_iadd C0 dX5_hashOf_12 ?_
  refine g_ldc C0 dX5_hashOf_13 q_261 ?_
  refine g_irem C0 dX5_hashOf_15 (by decide) ?_
  cases hf
  exact g_iret C0 rfl dX5_hashOf_16 rfl rfl
theorem mX5_hashOf (l : Launch) (D : va_G) (cB cC cI cO : ClassId)  (h0 h1 h2 h3 h4 : Nat) (tcp : Int32) (tkd : Int32) (tsd : Int32) (tlm : Int32) (tfu : Int32) (ttb : Int32) (trb : Int32) (tgr : Int32) (tK : Nat → Int32) (tV : Nat → Int32) (tO : Nat → Int32) (tW : Nat → Int32) (x0 : Int32) (out : Int32) (hf : fX5_hashOf tsd x0 = some out) : ∀ sz, Met l yX5_hashOf (ws_ yX5_hashOf cX5_hashOf 2 (some .int)) rmX5_hashOf (va_Pc [.ref h0, .int x0] (hPre D (hTy cB cC cI cO) [(h0, .inr (5, [.ref h1, .ref h2, .ref h3, .ref h4, .int tcp, .int tkd, .int tsd, .int tlm, .int tfu, .int ttb, .int trb, .int tgr])), (h1, .inl (cI, 64, .inl tK)), (h2, .inl (cI, 64, .inl tV)), (h3, .inl (cI, 64, .inl tO)), (h4, .inl (cI, 64, .inl tW))] sz)) (hQi D [(h0, .inr (5, [.ref h1, .ref h2, .ref h3, .ref h4, .int tcp, .int tkd, .int tsd, .int tlm, .int tfu, .int ttb, .int trb, .int tgr])), (h1, .inl (cI, 64, .inl tK)), (h2, .inl (cI, 64, .inl tV)), (h3, .inl (cI, 64, .inl tO)), (h4, .inl (cI, 64, .inl tW))] out (va_A [(h0, .inr (5, [.ref h1, .ref h2, .ref h3, .ref h4, .int tcp, .int tkd, .int tsd, .int tlm, .int tfu, .int ttb, .int trb, .int tgr])), (h1, .inl (cI, 64, .inl tK)), (h2, .inl (cI, 64, .inl tV)), (h3, .inl (cI, 64, .inl tO)), (h4, .inl (cI, 64, .inl tW))] sz)) 0 0 (va_A [(h0, .inr (5, [.ref h1, .ref h2, .ref h3, .ref h4, .int tcp, .int tkd, .int tsd, .int tlm, .int tfu, .int ttb, .int trb, .int tgr])), (h1, .inl (cI, 64, .inl tK)), (h2, .inl (cI, 64, .inl tV)), (h3, .inl (cI, 64, .inl tO)), (h4, .inl (cI, 64, .inl tW))] sz) :=
  g_met (Qf := fun A => hQi D [(h0, .inr (5, [.ref h1, .ref h2, .ref h3, .ref h4, .int tcp, .int tkd, .int tsd, .int tlm, .int tfu, .int ttb, .int trb, .int tgr])), (h1, .inl (cI, 64, .inl tK)), (h2, .inl (cI, 64, .inl tV)), (h3, .inl (cI, 64, .inl tO)), (h4, .inl (cI, 64, .inl tW))] out A) (by decide +kernel) (Nat.le_of_ble_eq_true rfl) rfl (fun C0 => bX5_hashOf C0 h0 h1 h2 h3 h4 out tcp tkd tsd tlm tfu ttb trb tgr tK tV tO tW x0 hf)
abbrev rmX5_strideOf : Room := { frames := 0, cells := 0, slots := 0, locals := 0 }
theorem hmX5_strideOf : hMV yX5_strideOf cX5_strideOf 2 (some .int) 1 := ⟨q_269, q_13, q_267, q_268, by decide, by decide, by decide +kernel⟩
theorem dX5_strideOf_0 : decode cX5_strideOf 0 = .ok (.aload_n 0, 1) := by decide +kernel
theorem dX5_strideOf_1 : decode cX5_strideOf 1 = .ok (.getfield 24, 3) := by decide +kernel
theorem dX5_strideOf_4 : decode cX5_strideOf 4 = .ok (.iconst 2, 1) := by decide +kernel
theorem dX5_strideOf_5 : decode cX5_strideOf 5 = .ok (.if_icmp .ne 11, 3) := by decide +kernel
theorem dX5_strideOf_8 : decode cX5_strideOf 8 = .ok (.aload_n 0, 1) := by decide +kernel
theorem dX5_strideOf_9 : decode cX5_strideOf 9 = .ok (.getfield 31, 3) := by decide +kernel
theorem dX5_strideOf_12 : decode cX5_strideOf 12 = .ok (.iconst 2, 1) := by decide +kernel
theorem dX5_strideOf_13 : decode cX5_strideOf 13 = .ok (.if_icmp .ge 5, 3) := by decide +kernel
theorem dX5_strideOf_16 : decode cX5_strideOf 16 = .ok (.iconst 1, 1) := by decide +kernel
theorem dX5_strideOf_17 : decode cX5_strideOf 17 = .ok (.ireturn, 1) := by decide +kernel
theorem dX5_strideOf_18 : decode cX5_strideOf 18 = .ok (.iconst 2, 1) := by decide +kernel
theorem dX5_strideOf_19 : decode cX5_strideOf 19 = .ok (.iload_n 1, 1) := by decide +kernel
theorem dX5_strideOf_20 : decode cX5_strideOf 20 = .ok (.aload_n 0, 1) := by decide +kernel
theorem dX5_strideOf_21 : decode cX5_strideOf 21 = .ok (.getfield 31, 3) := by decide +kernel
theorem dX5_strideOf_24 : decode cX5_strideOf 24 = .ok (.idiv, 1) := by decide +kernel
theorem dX5_strideOf_25 : decode cX5_strideOf 25 = .ok (.aload_n 0, 1) := by decide +kernel
theorem dX5_strideOf_26 : decode cX5_strideOf 26 = .ok (.getfield 31, 3) := by decide +kernel
theorem dX5_strideOf_29 : decode cX5_strideOf 29 = .ok (.iconst 2, 1) := by decide +kernel
theorem dX5_strideOf_30 : decode cX5_strideOf 30 = .ok (.idiv, 1) := by decide +kernel
theorem dX5_strideOf_31 : decode cX5_strideOf 31 = .ok (.irem, 1) := by decide +kernel
theorem dX5_strideOf_32 : decode cX5_strideOf 32 = .ok (.imul, 1) := by decide +kernel
theorem dX5_strideOf_33 : decode cX5_strideOf 33 = .ok (.iconst 1, 1) := by decide +kernel
theorem dX5_strideOf_34 : decode cX5_strideOf 34 = .ok (.iadd, 1) := by decide +kernel
theorem dX5_strideOf_35 : decode cX5_strideOf 35 = .ok (.ireturn, 1) := by decide +kernel
set_option maxHeartbeats 4000000 in
set_option maxRecDepth 100000 in
theorem bX5_strideOf {p : Program} {l : Launch} {e : Env} {s : State} {m : MethodId} {args : Array Value} {below : List Frame} {meth : Method} {c : Code} {D : va_G} {cB cC cI cO : ClassId} {A : Nat → Prop} (C0 : gC RX5 cX5_strideOf 2 (some .int) p s m args meth c D (hTy cB cC cI cO) A) (h0 h1 h2 h3 h4 : Nat) (out : Int32) (tcp : Int32) (tkd : Int32) (tsd : Int32) (tlm : Int32) (tfu : Int32) (ttb : Int32) (trb : Int32) (tgr : Int32) (tK : Nat → Int32) (tV : Nat → Int32) (tO : Nat → Int32) (tW : Nat → Int32) (x0 : Int32) (hf : fX5_strideOf tcp tkd x0 = some out) : gG p l e rmX5_strideOf s m args below meth c D A 2 (MQ below (hQi D [(h0, .inr (5, [.ref h1, .ref h2, .ref h3, .ref h4, .int tcp, .int tkd, .int tsd, .int tlm, .int tfu, .int ttb, .int trb, .int tgr])), (h1, .inl (cI, 64, .inl tK)), (h2, .inl (cI, 64, .inl tV)), (h3, .inl (cI, 64, .inl tO)), (h4, .inl (cI, 64, .inl tW))] out A) args s 0 0 A) 0 0 0 [(0, .ref h0), (1, .int x0)] [] [(h0, .inr (5, [.ref h1, .ref h2, .ref h3, .ref h4, .int tcp, .int tkd, .int tsd, .int tlm, .int tfu, .int ttb, .int trb, .int tgr])), (h1, .inl (cI, 64, .inl tK)), (h2, .inl (cI, 64, .inl tV)), (h3, .inl (cI, 64, .inl tO)), (h4, .inl (cI, 64, .inl tW))] := by
  unfold fX5_strideOf at hf
  refine g_aload_n C0 dX5_strideOf_0 rfl 0 rfl ?_
  refine g_get C0 hinX5 0 rfl rfl 5 (by decide) q_67 rfl dX5_strideOf_1 ?_
  refine g_iconst C0 (v := (2 : Int32)) dX5_strideOf_4 (by decide) ?_
  refine g_icmp_ne C0 (tgt := 16) dX5_strideOf_5 (by decide) (fun c1 => ?_) (fun c1 => ?_)
  · rw [if_neg c1] at hf
    refine g_iconst C0 (v := (1 : Int32)) dX5_strideOf_16 (by decide) ?_
    cases hf
    exact g_iret C0 rfl dX5_strideOf_17 rfl rfl
  · rw [if_pos c1] at hf
    refine g_aload_n C0 dX5_strideOf_8 rfl 0 rfl ?_
    refine g_get C0 hinX5 0 rfl rfl 4 (by decide) q_64 rfl dX5_strideOf_9 ?_
    refine g_iconst C0 (v := (2 : Int32)) dX5_strideOf_12 (by decide) ?_
    refine g_icmp_ge C0 (tgt := 18) dX5_strideOf_13 (by decide) (fun c2 => ?_) (fun c2 => ?_)
    · rw [if_pos c2] at hf
      refine g_iconst C0 (v := (2 : Int32)) dX5_strideOf_18 (by decide) ?_
      refine g_iload_n C0 dX5_strideOf_19 rfl 1 rfl ?_
      refine g_aload_n C0 dX5_strideOf_20 rfl 0 rfl ?_
      refine g_get C0 hinX5 0 rfl rfl 4 (by decide) q_64 rfl dX5_strideOf_21 ?_
      obtain ⟨z3, hf⟩ := hl_ifN hf
      refine g_idiv C0 dX5_strideOf_24 z3 ?_
      refine g_aload_n C0 dX5_strideOf_25 rfl 0 rfl ?_
      refine g_get C0 hinX5 0 rfl rfl 4 (by decide) q_64 rfl dX5_strideOf_26 ?_
      refine g_iconst C0 (v := (2 : Int32)) dX5_strideOf_29 (by decide) ?_
      refine g_idiv C0 dX5_strideOf_30 (by decide) ?_
      obtain ⟨z4, hf⟩ := hl_ifN hf
      refine g_irem C0 dX5_strideOf_31 z4 ?_
      refine g_imul C0 dX5_strideOf_32 ?_
      refine g_iconst C0 (v := (1 : Int32)) dX5_strideOf_33 (by decide) ?_
      refine g_iadd C0 dX5_strideOf_34 ?_
      cases hf
      exact g_iret C0 rfl dX5_strideOf_35 rfl rfl
    · rw [if_neg c2] at hf
      refine g_iconst C0 (v := (1 : Int32)) dX5_strideOf_16 (by decide) ?_
      cases hf
      exact g_iret C0 rfl dX5_strideOf_17 rfl rfl
theorem mX5_strideOf (l : Launch) (D : va_G) (cB cC cI cO : ClassId)  (h0 h1 h2 h3 h4 : Nat) (tcp : Int32) (tkd : Int32) (tsd : Int32) (tlm : Int32) (tfu : Int32) (ttb : Int32) (trb : Int32) (tgr : Int32) (tK : Nat → Int32) (tV : Nat → Int32) (tO : Nat → Int32) (tW : Nat → Int32) (x0 : Int32) (out : Int32) (hf : fX5_strideOf tcp tkd x0 = some out) : ∀ sz, Met l yX5_strideOf (ws_ yX5_strideOf cX5_strideOf 2 (some .int)) rmX5_strideOf (va_Pc [.ref h0, .int x0] (hPre D (hTy cB cC cI cO) [(h0, .inr (5, [.ref h1, .ref h2, .ref h3, .ref h4, .int tcp, .int tkd, .int tsd, .int tlm, .int tfu, .int ttb, .int trb, .int tgr])), (h1, .inl (cI, 64, .inl tK)), (h2, .inl (cI, 64, .inl tV)), (h3, .inl (cI, 64, .inl tO)), (h4, .inl (cI, 64, .inl tW))] sz)) (hQi D [(h0, .inr (5, [.ref h1, .ref h2, .ref h3, .ref h4, .int tcp, .int tkd, .int tsd, .int tlm, .int tfu, .int ttb, .int trb, .int tgr])), (h1, .inl (cI, 64, .inl tK)), (h2, .inl (cI, 64, .inl tV)), (h3, .inl (cI, 64, .inl tO)), (h4, .inl (cI, 64, .inl tW))] out (va_A [(h0, .inr (5, [.ref h1, .ref h2, .ref h3, .ref h4, .int tcp, .int tkd, .int tsd, .int tlm, .int tfu, .int ttb, .int trb, .int tgr])), (h1, .inl (cI, 64, .inl tK)), (h2, .inl (cI, 64, .inl tV)), (h3, .inl (cI, 64, .inl tO)), (h4, .inl (cI, 64, .inl tW))] sz)) 0 0 (va_A [(h0, .inr (5, [.ref h1, .ref h2, .ref h3, .ref h4, .int tcp, .int tkd, .int tsd, .int tlm, .int tfu, .int ttb, .int trb, .int tgr])), (h1, .inl (cI, 64, .inl tK)), (h2, .inl (cI, 64, .inl tV)), (h3, .inl (cI, 64, .inl tO)), (h4, .inl (cI, 64, .inl tW))] sz) :=
  g_met (Qf := fun A => hQi D [(h0, .inr (5, [.ref h1, .ref h2, .ref h3, .ref h4, .int tcp, .int tkd, .int tsd, .int tlm, .int tfu, .int ttb, .int trb, .int tgr])), (h1, .inl (cI, 64, .inl tK)), (h2, .inl (cI, 64, .inl tV)), (h3, .inl (cI, 64, .inl tO)), (h4, .inl (cI, 64, .inl tW))] out A) (by decide +kernel) (Nat.le_of_ble_eq_true rfl) rfl (fun C0 => bX5_strideOf C0 h0 h1 h2 h3 h4 out tcp tkd tsd tlm tfu ttb trb tgr tK tV tO tW x0 hf)
abbrev rmX5_wrap : Room := { frames := 0, cells := 0, slots := 0, locals := 0 }
theorem hmX5_wrap : hMV yX5_wrap cX5_wrap 2 (some .int) 1 := ⟨q_265, q_13, q_264, q_1, by decide, by decide, by decide +kernel⟩
theorem dX5_wrap_0 : decode cX5_wrap 0 = .ok (.iload_n 1, 1) := by decide +kernel
theorem dX5_wrap_1 : decode cX5_wrap 1 = .ok (.aload_n 0, 1) := by decide +kernel
theorem dX5_wrap_2 : decode cX5_wrap 2 = .ok (.getfield 31, 3) := by decide +kernel
theorem dX5_wrap_5 : decode cX5_wrap 5 = .ok (.iconst 1, 1) := by decide +kernel
theorem dX5_wrap_6 : decode cX5_wrap 6 = .ok (.isub, 1) := by decide +kernel
theorem dX5_wrap_7 : decode cX5_wrap 7 = .ok (.iand, 1) := by decide +kernel
theorem dX5_wrap_8 : decode cX5_wrap 8 = .ok (.ireturn, 1) := by decide +kernel
set_option maxHeartbeats 4000000 in
set_option maxRecDepth 100000 in
theorem bX5_wrap {p : Program} {l : Launch} {e : Env} {s : State} {m : MethodId} {args : Array Value} {below : List Frame} {meth : Method} {c : Code} {D : va_G} {cB cC cI cO : ClassId} {A : Nat → Prop} (C0 : gC RX5 cX5_wrap 2 (some .int) p s m args meth c D (hTy cB cC cI cO) A) (h0 h1 h2 h3 h4 : Nat) (out : Int32) (tcp : Int32) (tkd : Int32) (tsd : Int32) (tlm : Int32) (tfu : Int32) (ttb : Int32) (trb : Int32) (tgr : Int32) (tK : Nat → Int32) (tV : Nat → Int32) (tO : Nat → Int32) (tW : Nat → Int32) (x0 : Int32) (hf : fX5_wrap tcp x0 = some out) : gG p l e rmX5_wrap s m args below meth c D A 2 (MQ below (hQi D [(h0, .inr (5, [.ref h1, .ref h2, .ref h3, .ref h4, .int tcp, .int tkd, .int tsd, .int tlm, .int tfu, .int ttb, .int trb, .int tgr])), (h1, .inl (cI, 64, .inl tK)), (h2, .inl (cI, 64, .inl tV)), (h3, .inl (cI, 64, .inl tO)), (h4, .inl (cI, 64, .inl tW))] out A) args s 0 0 A) 0 0 0 [(0, .ref h0), (1, .int x0)] [] [(h0, .inr (5, [.ref h1, .ref h2, .ref h3, .ref h4, .int tcp, .int tkd, .int tsd, .int tlm, .int tfu, .int ttb, .int trb, .int tgr])), (h1, .inl (cI, 64, .inl tK)), (h2, .inl (cI, 64, .inl tV)), (h3, .inl (cI, 64, .inl tO)), (h4, .inl (cI, 64, .inl tW))] := by
  unfold fX5_wrap at hf
  refine g_iload_n C0 dX5_wrap_0 rfl 1 rfl ?_
  refine g_aload_n C0 dX5_wrap_1 rfl 0 rfl ?_
  refine g_get C0 hinX5 0 rfl rfl 4 (by decide) q_64 rfl dX5_wrap_2 ?_
  refine g_iconst C0 (v := (1 : Int32)) dX5_wrap_5 (by decide) ?_
  refine g_isub C0 dX5_wrap_6 ?_
  refine g_iand C0 dX5_wrap_7 ?_
  cases hf
  exact g_iret C0 rfl dX5_wrap_8 rfl rfl
theorem mX5_wrap (l : Launch) (D : va_G) (cB cC cI cO : ClassId)  (h0 h1 h2 h3 h4 : Nat) (tcp : Int32) (tkd : Int32) (tsd : Int32) (tlm : Int32) (tfu : Int32) (ttb : Int32) (trb : Int32) (tgr : Int32) (tK : Nat → Int32) (tV : Nat → Int32) (tO : Nat → Int32) (tW : Nat → Int32) (x0 : Int32) (out : Int32) (hf : fX5_wrap tcp x0 = some out) : ∀ sz, Met l yX5_wrap (ws_ yX5_wrap cX5_wrap 2 (some .int)) rmX5_wrap (va_Pc [.ref h0, .int x0] (hPre D (hTy cB cC cI cO) [(h0, .inr (5, [.ref h1, .ref h2, .ref h3, .ref h4, .int tcp, .int tkd, .int tsd, .int tlm, .int tfu, .int ttb, .int trb, .int tgr])), (h1, .inl (cI, 64, .inl tK)), (h2, .inl (cI, 64, .inl tV)), (h3, .inl (cI, 64, .inl tO)), (h4, .inl (cI, 64, .inl tW))] sz)) (hQi D [(h0, .inr (5, [.ref h1, .ref h2, .ref h3, .ref h4, .int tcp, .int tkd, .int tsd, .int tlm, .int tfu, .int ttb, .int trb, .int tgr])), (h1, .inl (cI, 64, .inl tK)), (h2, .inl (cI, 64, .inl tV)), (h3, .inl (cI, 64, .inl tO)), (h4, .inl (cI, 64, .inl tW))] out (va_A [(h0, .inr (5, [.ref h1, .ref h2, .ref h3, .ref h4, .int tcp, .int tkd, .int tsd, .int tlm, .int tfu, .int ttb, .int trb, .int tgr])), (h1, .inl (cI, 64, .inl tK)), (h2, .inl (cI, 64, .inl tV)), (h3, .inl (cI, 64, .inl tO)), (h4, .inl (cI, 64, .inl tW))] sz)) 0 0 (va_A [(h0, .inr (5, [.ref h1, .ref h2, .ref h3, .ref h4, .int tcp, .int tkd, .int tsd, .int tlm, .int tfu, .int ttb, .int trb, .int tgr])), (h1, .inl (cI, 64, .inl tK)), (h2, .inl (cI, 64, .inl tV)), (h3, .inl (cI, 64, .inl tO)), (h4, .inl (cI, 64, .inl tW))] sz) :=
  g_met (Qf := fun A => hQi D [(h0, .inr (5, [.ref h1, .ref h2, .ref h3, .ref h4, .int tcp, .int tkd, .int tsd, .int tlm, .int tfu, .int ttb, .int trb, .int tgr])), (h1, .inl (cI, 64, .inl tK)), (h2, .inl (cI, 64, .inl tV)), (h3, .inl (cI, 64, .inl tO)), (h4, .inl (cI, 64, .inl tW))] out A) (by decide +kernel) (Nat.le_of_ble_eq_true rfl) rfl (fun C0 => bX5_wrap C0 h0 h1 h2 h3 h4 out tcp tkd tsd tlm tfu ttb trb tgr tK tV tO tW x0 hf)
abbrev rmX5_offsetAt : Room := { frames := 0, cells := 0, slots := 0, locals := 0 }
theorem hmX5_offsetAt : hMV yX5_offsetAt cX5_offsetAt 3 (some .int) 2 := ⟨q_273, q_13, q_272, q_2, by decide, by decide, by decide +kernel⟩
theorem dX5_offsetAt_0 : decode cX5_offsetAt 0 = .ok (.aload_n 0, 1) := by decide +kernel
theorem dX5_offsetAt_1 : decode cX5_offsetAt 1 = .ok (.getfield 24, 3) := by decide +kernel
theorem dX5_offsetAt_4 : decode cX5_offsetAt 4 = .ok (.iconst 1, 1) := by decide +kernel
theorem dX5_offsetAt_5 : decode cX5_offsetAt 5 = .ok (.if_icmp .ne 13, 3) := by decide +kernel
theorem dX5_offsetAt_8 : decode cX5_offsetAt 8 = .ok (.iload_n 1, 1) := by decide +kernel
theorem dX5_offsetAt_9 : decode cX5_offsetAt 9 = .ok (.iload_n 1, 1) := by decide +kernel
theorem dX5_offsetAt_10 : decode cX5_offsetAt 10 = .ok (.iconst 1, 1) := by decide +kernel
theorem dX5_offsetAt_11 : decode cX5_offsetAt 11 = .ok (.iadd, 1) := by decide +kernel
theorem dX5_offsetAt_12 : decode cX5_offsetAt 12 = .ok (.imul, 1) := by decide +kernel
theorem dX5_offsetAt_13 : decode cX5_offsetAt 13 = .ok (.iconst 2, 1) := by decide +kernel
theorem dX5_offsetAt_14 : decode cX5_offsetAt 14 = .ok (.idiv, 1) := by decide +kernel
theorem dX5_offsetAt_15 : decode cX5_offsetAt 15 = .ok (.goto 6, 3) := by decide +kernel
theorem dX5_offsetAt_18 : decode cX5_offsetAt 18 = .ok (.iload_n 1, 1) := by decide +kernel
theorem dX5_offsetAt_19 : decode cX5_offsetAt 19 = .ok (.iload_n 2, 1) := by decide +kernel
theorem dX5_offsetAt_20 : decode cX5_offsetAt 20 = .ok (.imul, 1) := by decide +kernel
theorem dX5_offsetAt_21 : decode cX5_offsetAt 21 = .ok (.ireturn, 1) := by decide +kernel
set_option maxHeartbeats 4000000 in
set_option maxRecDepth 100000 in
theorem bX5_offsetAt {p : Program} {l : Launch} {e : Env} {s : State} {m : MethodId} {args : Array Value} {below : List Frame} {meth : Method} {c : Code} {D : va_G} {cB cC cI cO : ClassId} {A : Nat → Prop} (C0 : gC RX5 cX5_offsetAt 3 (some .int) p s m args meth c D (hTy cB cC cI cO) A) (h0 h1 h2 h3 h4 : Nat) (out : Int32) (tcp : Int32) (tkd : Int32) (tsd : Int32) (tlm : Int32) (tfu : Int32) (ttb : Int32) (trb : Int32) (tgr : Int32) (tK : Nat → Int32) (tV : Nat → Int32) (tO : Nat → Int32) (tW : Nat → Int32) (x0 : Int32) (x1 : Int32) (hf : fX5_offsetAt tkd x0 x1 = some out) : gG p l e rmX5_offsetAt s m args below meth c D A 3 (MQ below (hQi D [(h0, .inr (5, [.ref h1, .ref h2, .ref h3, .ref h4, .int tcp, .int tkd, .int tsd, .int tlm, .int tfu, .int ttb, .int trb, .int tgr])), (h1, .inl (cI, 64, .inl tK)), (h2, .inl (cI, 64, .inl tV)), (h3, .inl (cI, 64, .inl tO)), (h4, .inl (cI, 64, .inl tW))] out A) args s 0 0 A) 0 0 0 [(0, .ref h0), (1, .int x0), (2, .int x1)] [] [(h0, .inr (5, [.ref h1, .ref h2, .ref h3, .ref h4, .int tcp, .int tkd, .int tsd, .int tlm, .int tfu, .int ttb, .int trb, .int tgr])), (h1, .inl (cI, 64, .inl tK)), (h2, .inl (cI, 64, .inl tV)), (h3, .inl (cI, 64, .inl tO)), (h4, .inl (cI, 64, .inl tW))] := by
  unfold fX5_offsetAt at hf
  refine g_aload_n C0 dX5_offsetAt_0 rfl 0 rfl ?_
  refine g_get C0 hinX5 0 rfl rfl 5 (by decide) q_67 rfl dX5_offsetAt_1 ?_
  refine g_iconst C0 (v := (1 : Int32)) dX5_offsetAt_4 (by decide) ?_
  refine g_icmp_ne C0 (tgt := 18) dX5_offsetAt_5 (by decide) (fun c1 => ?_) (fun c1 => ?_)
  · rw [if_neg c1] at hf
    refine g_iload_n C0 dX5_offsetAt_18 rfl 1 rfl ?_
    refine g_iload_n C0 dX5_offsetAt_19 rfl 2 rfl ?_
    refine g_imul C0 dX5_offsetAt_20 ?_
    cases hf
    exact g_iret C0 rfl dX5_offsetAt_21 rfl rfl
  · rw [if_pos c1] at hf
    refine g_iload_n C0 dX5_offsetAt_8 rfl 1 rfl ?_
    refine g_iload_n C0 dX5_offsetAt_9 rfl 1 rfl ?_
    refine g_iconst C0 (v := (1 : Int32)) dX5_offsetAt_10 (by decide) ?_
    refine g_iadd C0 dX5_offsetAt_11 ?_
    refine g_imul C0 dX5_offsetAt_12 ?_
    refine g_iconst C0 (v := (2 : Int32)) dX5_offsetAt_13 (by decide) ?_
    refine g_idiv C0 dX5_offsetAt_14 (by decide) ?_
    refine g_goto C0 (tgt := 21) dX5_offsetAt_15 (by decide) ?_
    cases hf
    exact g_iret C0 rfl dX5_offsetAt_21 rfl rfl
theorem mX5_offsetAt (l : Launch) (D : va_G) (cB cC cI cO : ClassId)  (h0 h1 h2 h3 h4 : Nat) (tcp : Int32) (tkd : Int32) (tsd : Int32) (tlm : Int32) (tfu : Int32) (ttb : Int32) (trb : Int32) (tgr : Int32) (tK : Nat → Int32) (tV : Nat → Int32) (tO : Nat → Int32) (tW : Nat → Int32) (x0 : Int32) (x1 : Int32) (out : Int32) (hf : fX5_offsetAt tkd x0 x1 = some out) : ∀ sz, Met l yX5_offsetAt (ws_ yX5_offsetAt cX5_offsetAt 3 (some .int)) rmX5_offsetAt (va_Pc [.ref h0, .int x0, .int x1] (hPre D (hTy cB cC cI cO) [(h0, .inr (5, [.ref h1, .ref h2, .ref h3, .ref h4, .int tcp, .int tkd, .int tsd, .int tlm, .int tfu, .int ttb, .int trb, .int tgr])), (h1, .inl (cI, 64, .inl tK)), (h2, .inl (cI, 64, .inl tV)), (h3, .inl (cI, 64, .inl tO)), (h4, .inl (cI, 64, .inl tW))] sz)) (hQi D [(h0, .inr (5, [.ref h1, .ref h2, .ref h3, .ref h4, .int tcp, .int tkd, .int tsd, .int tlm, .int tfu, .int ttb, .int trb, .int tgr])), (h1, .inl (cI, 64, .inl tK)), (h2, .inl (cI, 64, .inl tV)), (h3, .inl (cI, 64, .inl tO)), (h4, .inl (cI, 64, .inl tW))] out (va_A [(h0, .inr (5, [.ref h1, .ref h2, .ref h3, .ref h4, .int tcp, .int tkd, .int tsd, .int tlm, .int tfu, .int ttb, .int trb, .int tgr])), (h1, .inl (cI, 64, .inl tK)), (h2, .inl (cI, 64, .inl tV)), (h3, .inl (cI, 64, .inl tO)), (h4, .inl (cI, 64, .inl tW))] sz)) 0 0 (va_A [(h0, .inr (5, [.ref h1, .ref h2, .ref h3, .ref h4, .int tcp, .int tkd, .int tsd, .int tlm, .int tfu, .int ttb, .int trb, .int tgr])), (h1, .inl (cI, 64, .inl tK)), (h2, .inl (cI, 64, .inl tV)), (h3, .inl (cI, 64, .inl tO)), (h4, .inl (cI, 64, .inl tW))] sz) :=
  g_met (Qf := fun A => hQi D [(h0, .inr (5, [.ref h1, .ref h2, .ref h3, .ref h4, .int tcp, .int tkd, .int tsd, .int tlm, .int tfu, .int ttb, .int trb, .int tgr])), (h1, .inl (cI, 64, .inl tK)), (h2, .inl (cI, 64, .inl tV)), (h3, .inl (cI, 64, .inl tO)), (h4, .inl (cI, 64, .inl tW))] out A) (by decide +kernel) (Nat.le_of_ble_eq_true rfl) rfl (fun C0 => bX5_offsetAt C0 h0 h1 h2 h3 h4 out tcp tkd tsd tlm tfu ttb trb tgr tK tV tO tW x0 x1 hf)
abbrev rmX5_slotInSequence : Room := { frames := 1, cells := 0, slots := 0, locals := 22 }
theorem hmX5_slotInSequence : hMV yX5_slotInSequence cX5_slotInSequence 4 (some .int) 2 := ⟨q_255, q_13, q_253, q_254, by decide, by decide, by decide +kernel⟩
theorem dX5_slotInSequence_0 : decode cX5_slotInSequence 0 = .ok (.aload_n 0, 1) := by decide +kernel
theorem dX5_slotInSequence_1 : decode cX5_slotInSequence 1 = .ok (.iload_n 1, 1) := by decide +kernel
theorem dX5_slotInSequence_2 : decode cX5_slotInSequence 2 = .ok (.invokevirtual 75, 3) := by decide +kernel
theorem dX5_slotInSequence_5 : decode cX5_slotInSequence 5 = .ok (.istore_n 3, 1) := by decide +kernel
theorem dX5_slotInSequence_6 : decode cX5_slotInSequence 6 = .ok (.aload_n 0, 1) := by decide +kernel
theorem dX5_slotInSequence_7 : decode cX5_slotInSequence 7 = .ok (.aload_n 0, 1) := by decide +kernel
theorem dX5_slotInSequence_8 : decode cX5_slotInSequence 8 = .ok (.iload_n 3, 1) := by decide +kernel
theorem dX5_slotInSequence_9 : decode cX5_slotInSequence 9 = .ok (.invokevirtual 78, 3) := by decide +kernel
theorem dX5_slotInSequence_12 : decode cX5_slotInSequence 12 = .ok (.aload_n 0, 1) := by decide +kernel
theorem dX5_slotInSequence_13 : decode cX5_slotInSequence 13 = .ok (.iload_n 2, 1) := by decide +kernel
theorem dX5_slotInSequence_14 : decode cX5_slotInSequence 14 = .ok (.aload_n 0, 1) := by decide +kernel
theorem dX5_slotInSequence_15 : decode cX5_slotInSequence 15 = .ok (.iload_n 3, 1) := by decide +kernel
theorem dX5_slotInSequence_16 : decode cX5_slotInSequence 16 = .ok (.invokevirtual 81, 3) := by decide +kernel
theorem dX5_slotInSequence_19 : decode cX5_slotInSequence 19 = .ok (.invokevirtual 84, 3) := by decide +kernel
theorem dX5_slotInSequence_22 : decode cX5_slotInSequence 22 = .ok (.iadd, 1) := by decide +kernel
theorem dX5_slotInSequence_23 : decode cX5_slotInSequence 23 = .ok (.invokevirtual 78, 3) := by decide +kernel
theorem dX5_slotInSequence_26 : decode cX5_slotInSequence 26 = .ok (.ireturn, 1) := by decide +kernel
set_option maxHeartbeats 4000000 in
set_option maxRecDepth 100000 in
theorem bX5_slotInSequence {p : Program} {l : Launch} {e : Env} {s : State} {m : MethodId} {args : Array Value} {below : List Frame} {meth : Method} {c : Code} {D : va_G} {cB cC cI cO : ClassId} {A : Nat → Prop} (C0 : gC RX5 cX5_slotInSequence 4 (some .int) p s m args meth c D (hTy cB cC cI cO) A) (h0 h1 h2 h3 h4 : Nat) (out : Int32) (tcp : Int32) (tkd : Int32) (tsd : Int32) (tlm : Int32) (tfu : Int32) (ttb : Int32) (trb : Int32) (tgr : Int32) (tK : Nat → Int32) (tV : Nat → Int32) (tO : Nat → Int32) (tW : Nat → Int32) (x0 : Int32) (x1 : Int32) (hf : fX5_slotInSequence tcp tkd tsd x0 x1 = some out) : gG p l e rmX5_slotInSequence s m args below meth c D A 4 (MQ below (hQi D [(h0, .inr (5, [.ref h1, .ref h2, .ref h3, .ref h4, .int tcp, .int tkd, .int tsd, .int tlm, .int tfu, .int ttb, .int trb, .int tgr])), (h1, .inl (cI, 64, .inl tK)), (h2, .inl (cI, 64, .inl tV)), (h3, .inl (cI, 64, .inl tO)), (h4, .inl (cI, 64, .inl tW))] out A) args s 0 0 A) 0 0 0 [(0, .ref h0), (1, .int x0), (2, .int x1)] [] [(h0, .inr (5, [.ref h1, .ref h2, .ref h3, .ref h4, .int tcp, .int tkd, .int tsd, .int tlm, .int tfu, .int ttb, .int trb, .int tgr])), (h1, .inl (cI, 64, .inl tK)), (h2, .inl (cI, 64, .inl tV)), (h3, .inl (cI, 64, .inl tO)), (h4, .inl (cI, 64, .inl tW))] := by
  unfold fX5_slotInSequence at hf
  refine g_aload_n C0 dX5_slotInSequence_0 rfl 0 rfl ?_
  refine g_iload_n C0 dX5_slotInSequence_1 rfl 1 rfl ?_
  obtain ⟨r1, er1, hf⟩ := hl_bd hf
  try dsimp only at hf
  refine g_callVi C0 (ws' := [(h0, .inr (5, [.ref h1, .ref h2, .ref h3, .ref h4, .int tcp, .int tkd, .int tsd, .int tlm, .int tfu, .int ttb, .int trb, .int tgr])), (h1, .inl (cI, 64, .inl tK)), (h2, .inl (cI, 64, .inl tV)), (h3, .inl (cI, 64, .inl tO)), (h4, .inl (cI, 64, .inl tW))]) (mX5_hashOf l D cB cC cI cO  h0 h1 h2 h3 h4 tcp tkd tsd tlm tfu ttb trb tgr tK tV tO tW x0 r1 er1) hmX5_hashOf q_256 ⟨Nat.le_of_ble_eq_true rfl, Nat.le_of_ble_eq_true rfl⟩ ⟨Nat.le_of_ble_eq_true rfl, Nat.le_of_ble_eq_true rfl⟩ rfl rfl [0, 1, 2, 3, 4] rfl rfl rfl rfl rfl 0 rfl rfl rfl (Nat.le_of_ble_eq_true rfl) dX5_slotInSequence_2 ?_
  refine g_istore_n C0 (lv' := [(3, .int r1), (0, .ref h0), (1, .int x0), (2, .int x1)]) dX5_slotInSequence_5 rfl (by decide) rfl ?_
  refine g_aload_n C0 dX5_slotInSequence_6 rfl 1 rfl ?_
  refine g_aload_n C0 dX5_slotInSequence_7 rfl 1 rfl ?_
  refine g_iload_n C0 dX5_slotInSequence_8 rfl 0 rfl ?_
  obtain ⟨r2, er2, hf⟩ := hl_bd hf
  try dsimp only at hf
  refine g_callVi C0 (ws' := [(h0, .inr (5, [.ref h1, .ref h2, .ref h3, .ref h4, .int tcp, .int tkd, .int tsd, .int tlm, .int tfu, .int ttb, .int trb, .int tgr])), (h1, .inl (cI, 64, .inl tK)), (h2, .inl (cI, 64, .inl tV)), (h3, .inl (cI, 64, .inl tO)), (h4, .inl (cI, 64, .inl tW))]) (mX5_wrap l D cB cC cI cO  h0 h1 h2 h3 h4 tcp tkd tsd tlm tfu ttb trb tgr tK tV tO tW r1 r2 er2) hmX5_wrap q_262 ⟨Nat.le_of_ble_eq_true rfl, Nat.le_of_ble_eq_true rfl⟩ ⟨Nat.le_of_ble_eq_true rfl, Nat.le_of_ble_eq_true rfl⟩ rfl rfl [0, 1, 2, 3, 4] rfl rfl rfl rfl rfl 0 rfl rfl rfl (Nat.le_of_ble_eq_true rfl) dX5_slotInSequence_9 ?_
  refine g_aload_n C0 dX5_slotInSequence_12 rfl 1 rfl ?_
  refine g_iload_n C0 dX5_slotInSequence_13 rfl 3 rfl ?_
  refine g_aload_n C0 dX5_slotInSequence_14 rfl 1 rfl ?_
  refine g_iload_n C0 dX5_slotInSequence_15 rfl 0 rfl ?_
  obtain ⟨r3, er3, hf⟩ := hl_bd hf
  try dsimp only at hf
  refine g_callVi C0 (ws' := [(h0, .inr (5, [.ref h1, .ref h2, .ref h3, .ref h4, .int tcp, .int tkd, .int tsd, .int tlm, .int tfu, .int ttb, .int trb, .int tgr])), (h1, .inl (cI, 64, .inl tK)), (h2, .inl (cI, 64, .inl tV)), (h3, .inl (cI, 64, .inl tO)), (h4, .inl (cI, 64, .inl tW))]) (mX5_strideOf l D cB cC cI cO  h0 h1 h2 h3 h4 tcp tkd tsd tlm tfu ttb trb tgr tK tV tO tW r1 r3 er3) hmX5_strideOf q_266 ⟨Nat.le_of_ble_eq_true rfl, Nat.le_of_ble_eq_true rfl⟩ ⟨Nat.le_of_ble_eq_true rfl, Nat.le_of_ble_eq_true rfl⟩ rfl rfl [0, 1, 2, 3, 4] rfl rfl rfl rfl rfl 0 rfl rfl rfl (Nat.le_of_ble_eq_true rfl) dX5_slotInSequence_16 ?_
  obtain ⟨r4, er4, hf⟩ := hl_bd hf
  try dsimp only at hf
  refine g_callVi C0 (ws' := [(h0, .inr (5, [.ref h1, .ref h2, .ref h3, .ref h4, .int tcp, .int tkd, .int tsd, .int tlm, .int tfu, .int ttb, .int trb, .int tgr])), (h1, .inl (cI, 64, .inl tK)), (h2, .inl (cI, 64, .inl tV)), (h3, .inl (cI, 64, .inl tO)), (h4, .inl (cI, 64, .inl tW))]) (mX5_offsetAt l D cB cC cI cO  h0 h1 h2 h3 h4 tcp tkd tsd tlm tfu ttb trb tgr tK tV tO tW x1 r3 r4 er4) hmX5_offsetAt q_270 ⟨Nat.le_of_ble_eq_true rfl, Nat.le_of_ble_eq_true rfl⟩ ⟨Nat.le_of_ble_eq_true rfl, Nat.le_of_ble_eq_true rfl⟩ rfl rfl [0, 1, 2, 3, 4] rfl rfl rfl rfl rfl 0 rfl rfl rfl (Nat.le_of_ble_eq_true rfl) dX5_slotInSequence_19 ?_
  refine g_iadd C0 dX5_slotInSequence_22 ?_
  obtain ⟨r5, er5, hf⟩ := hl_bd hf
  try dsimp only at hf
  refine g_callVi C0 (ws' := [(h0, .inr (5, [.ref h1, .ref h2, .ref h3, .ref h4, .int tcp, .int tkd, .int tsd, .int tlm, .int tfu, .int ttb, .int trb, .int tgr])), (h1, .inl (cI, 64, .inl tK)), (h2, .inl (cI, 64, .inl tV)), (h3, .inl (cI, 64, .inl tO)), (h4, .inl (cI, 64, .inl tW))]) (mX5_wrap l D cB cC cI cO  h0 h1 h2 h3 h4 tcp tkd tsd tlm tfu ttb trb tgr tK tV tO tW (r2 + r4) r5 er5) hmX5_wrap q_262 ⟨Nat.le_of_ble_eq_true rfl, Nat.le_of_ble_eq_true rfl⟩ ⟨Nat.le_of_ble_eq_true rfl, Nat.le_of_ble_eq_true rfl⟩ rfl rfl [0, 1, 2, 3, 4] rfl rfl rfl rfl rfl 0 rfl rfl rfl (Nat.le_of_ble_eq_true rfl) dX5_slotInSequence_23 ?_
  cases hf
  exact g_iret C0 rfl dX5_slotInSequence_26 rfl rfl
theorem mX5_slotInSequence (l : Launch) (D : va_G) (cB cC cI cO : ClassId)  (h0 h1 h2 h3 h4 : Nat) (tcp : Int32) (tkd : Int32) (tsd : Int32) (tlm : Int32) (tfu : Int32) (ttb : Int32) (trb : Int32) (tgr : Int32) (tK : Nat → Int32) (tV : Nat → Int32) (tO : Nat → Int32) (tW : Nat → Int32) (x0 : Int32) (x1 : Int32) (out : Int32) (hf : fX5_slotInSequence tcp tkd tsd x0 x1 = some out) : ∀ sz, Met l yX5_slotInSequence (ws_ yX5_slotInSequence cX5_slotInSequence 4 (some .int)) rmX5_slotInSequence (va_Pc [.ref h0, .int x0, .int x1] (hPre D (hTy cB cC cI cO) [(h0, .inr (5, [.ref h1, .ref h2, .ref h3, .ref h4, .int tcp, .int tkd, .int tsd, .int tlm, .int tfu, .int ttb, .int trb, .int tgr])), (h1, .inl (cI, 64, .inl tK)), (h2, .inl (cI, 64, .inl tV)), (h3, .inl (cI, 64, .inl tO)), (h4, .inl (cI, 64, .inl tW))] sz)) (hQi D [(h0, .inr (5, [.ref h1, .ref h2, .ref h3, .ref h4, .int tcp, .int tkd, .int tsd, .int tlm, .int tfu, .int ttb, .int trb, .int tgr])), (h1, .inl (cI, 64, .inl tK)), (h2, .inl (cI, 64, .inl tV)), (h3, .inl (cI, 64, .inl tO)), (h4, .inl (cI, 64, .inl tW))] out (va_A [(h0, .inr (5, [.ref h1, .ref h2, .ref h3, .ref h4, .int tcp, .int tkd, .int tsd, .int tlm, .int tfu, .int ttb, .int trb, .int tgr])), (h1, .inl (cI, 64, .inl tK)), (h2, .inl (cI, 64, .inl tV)), (h3, .inl (cI, 64, .inl tO)), (h4, .inl (cI, 64, .inl tW))] sz)) 0 0 (va_A [(h0, .inr (5, [.ref h1, .ref h2, .ref h3, .ref h4, .int tcp, .int tkd, .int tsd, .int tlm, .int tfu, .int ttb, .int trb, .int tgr])), (h1, .inl (cI, 64, .inl tK)), (h2, .inl (cI, 64, .inl tV)), (h3, .inl (cI, 64, .inl tO)), (h4, .inl (cI, 64, .inl tW))] sz) :=
  g_met (Qf := fun A => hQi D [(h0, .inr (5, [.ref h1, .ref h2, .ref h3, .ref h4, .int tcp, .int tkd, .int tsd, .int tlm, .int tfu, .int ttb, .int trb, .int tgr])), (h1, .inl (cI, 64, .inl tK)), (h2, .inl (cI, 64, .inl tV)), (h3, .inl (cI, 64, .inl tO)), (h4, .inl (cI, 64, .inl tW))] out A) (by decide +kernel) (Nat.le_of_ble_eq_true rfl) rfl (fun C0 => bX5_slotInSequence C0 h0 h1 h2 h3 h4 out tcp tkd tsd tlm tfu ttb trb tgr tK tV tO tW x0 x1 hf)
abbrev rmX5_searchLength : Room := { frames := 2, cells := 0, slots := 0, locals := 45 }
theorem hmX5_searchLength : hMV yX5_searchLength cX5_searchLength 4 (some .int) 1 := ⟨q_251, q_13, q_249, q_250, by decide, by decide, by decide +kernel⟩
theorem dX5_searchLength_0 : decode cX5_searchLength 0 = .ok (.iconst 0, 1) := by decide +kernel
theorem dX5_searchLength_1 : decode cX5_searchLength 1 = .ok (.istore_n 2, 1) := by decide +kernel
theorem dX5_searchLength_2 : decode cX5_searchLength 2 = .ok (.iload_n 2, 1) := by decide +kernel
theorem dX5_searchLength_3 : decode cX5_searchLength 3 = .ok (.aload_n 0, 1) := by decide +kernel
theorem dX5_searchLength_4 : decode cX5_searchLength 4 = .ok (.getfield 31, 3) := by decide +kernel
theorem dX5_searchLength_7 : decode cX5_searchLength 7 = .ok (.if_icmp .ge 34, 3) := by decide +kernel
theorem dX5_searchLength_10 : decode cX5_searchLength 10 = .ok (.aload_n 0, 1) := by decide +kernel
theorem dX5_searchLength_11 : decode cX5_searchLength 11 = .ok (.aload_n 0, 1) := by decide +kernel
theorem dX5_searchLength_12 : decode cX5_searchLength 12 = .ok (.iload_n 1, 1) := by decide +kernel
theorem dX5_searchLength_13 : decode cX5_searchLength 13 = .ok (.iload_n 2, 1) := by decide +kernel
theorem dX5_searchLength_14 : decode cX5_searchLength 14 = .ok (.invokevirtual 88, 3) := by decide +kernel
theorem dX5_searchLength_17 : decode cX5_searchLength 17 = .ok (.invokevirtual 69, 3) := by decide +kernel
theorem dX5_searchLength_20 : decode cX5_searchLength 20 = .ok (.istore_n 3, 1) := by decide +kernel
theorem dX5_searchLength_21 : decode cX5_searchLength 21 = .ok (.iload_n 3, 1) := by decide +kernel
theorem dX5_searchLength_22 : decode cX5_searchLength 22 = .ok (.iload_n 1, 1) := by decide +kernel
theorem dX5_searchLength_23 : decode cX5_searchLength 23 = .ok (.if_icmp .eq 8, 3) := by decide +kernel
theorem dX5_searchLength_26 : decode cX5_searchLength 26 = .ok (.iload_n 3, 1) := by decide +kernel
theorem dX5_searchLength_27 : decode cX5_searchLength 27 = .ok (.iconst (-1), 1) := by decide +kernel
theorem dX5_searchLength_28 : decode cX5_searchLength 28 = .ok (.if_icmp .ne 7, 3) := by decide +kernel
theorem dX5_searchLength_31 : decode cX5_searchLength 31 = .ok (.iload_n 2, 1) := by decide +kernel
theorem dX5_searchLength_32 : decode cX5_searchLength 32 = .ok (.iconst 1, 1) := by decide +kernel
theorem dX5_searchLength_33 : decode cX5_searchLength 33 = .ok (.iadd, 1) := by decide +kernel
theorem dX5_searchLength_34 : decode cX5_searchLength 34 = .ok (.ireturn, 1) := by decide +kernel
theorem dX5_searchLength_35 : decode cX5_searchLength 35 = .ok (.iinc 2 1, 3) := by decide +kernel
theorem dX5_searchLength_38 : decode cX5_searchLength 38 = .ok (.goto (-36), 3) := by decide +kernel
theorem dX5_searchLength_41 : decode cX5_searchLength 41 = .ok (.aload_n 0, 1) := by decide +kernel
theorem dX5_searchLength_42 : decode cX5_searchLength 42 = .ok (.getfield 31, 3) := by decide +kernel
theorem dX5_searchLength_45 : decode cX5_searchLength 45 = .ok (.ireturn, 1) := by decide +kernel
set_option maxHeartbeats 4000000 in
set_option maxRecDepth 100000 in
theorem bX5_searchLength_2 {p : Program} {l : Launch} {e : Env} {s : State} {m : MethodId} {args : Array Value} {below : List Frame} {meth : Method} {c : Code} {D : va_G} {cB cC cI cO : ClassId} {A : Nat → Prop} (C0 : gC RX5 cX5_searchLength 4 (some .int) p s m args meth c D (hTy cB cC cI cO) A) (h0 h1 h2 h3 h4 : Nat) (out : Int32) (tlm : Int32) (tfu : Int32) (ttb : Int32) (trb : Int32) (tgr : Int32) (tV : Nat → Int32) (tO : Nat → Int32) (tW : Nat → Int32)   : ∀ (n : Nat) (tcp : Int32) (tkd : Int32) (tsd : Int32) (tK : Nat → Int32) (v1 : Int32) (v2 : Int32), fX5_searchLength_2 n tcp tkd tsd tK v1 v2 = some out → gG p l e rmX5_searchLength s m args below meth c D A 4 (MQ below (hQi D [(h0, .inr (5, [.ref h1, .ref h2, .ref h3, .ref h4, .int tcp, .int tkd, .int tsd, .int tlm, .int tfu, .int ttb, .int trb, .int tgr])), (h1, .inl (cI, 64, .inl tK)), (h2, .inl (cI, 64, .inl tV)), (h3, .inl (cI, 64, .inl tO)), (h4, .inl (cI, 64, .inl tW))] out A) args s 0 0 A) 0 0 2 [(0, .ref h0), (1, .int v1), (2, .int v2)] [] [(h0, .inr (5, [.ref h1, .ref h2, .ref h3, .ref h4, .int tcp, .int tkd, .int tsd, .int tlm, .int tfu, .int ttb, .int trb, .int tgr])), (h1, .inl (cI, 64, .inl tK)), (h2, .inl (cI, 64, .inl tV)), (h3, .inl (cI, 64, .inl tO)), (h4, .inl (cI, 64, .inl tW))] := by
  intro n
  induction n with
  | zero => intro tcp tkd tsd tK v1 v2 hf; rw [fX5_searchLength_2] at hf; cases hf
  | succ n ih =>
    intro tcp tkd tsd tK v1 v2 hf
    rw [fX5_searchLength_2] at hf
    refine g_iload_n C0 dX5_searchLength_2 rfl 2 rfl ?_
    refine g_aload_n C0 dX5_searchLength_3 rfl 0 rfl ?_
    refine g_get C0 hinX5 0 rfl rfl 4 (by decide) q_64 rfl dX5_searchLength_4 ?_
    refine g_icmp_ge C0 (tgt := 41) dX5_searchLength_7 (by decide) (fun c1 => ?_) (fun c1 => ?_)
    · rw [if_pos c1] at hf
      refine g_aload_n C0 dX5_searchLength_41 rfl 0 rfl ?_
      refine g_get C0 hinX5 0 rfl rfl 4 (by decide) q_64 rfl dX5_searchLength_42 ?_
      cases hf
      exact g_iret C0 rfl dX5_searchLength_45 rfl rfl
    · rw [if_neg c1] at hf
      refine g_aload_n C0 dX5_searchLength_10 rfl 0 rfl ?_
      refine g_aload_n C0 dX5_searchLength_11 rfl 0 rfl ?_
      refine g_iload_n C0 dX5_searchLength_12 rfl 1 rfl ?_
      refine g_iload_n C0 dX5_searchLength_13 rfl 2 rfl ?_
      obtain ⟨r2, er2, hf⟩ := hl_bd hf
      try dsimp only at hf
      refine g_callVi C0 (ws' := [(h0, .inr (5, [.ref h1, .ref h2, .ref h3, .ref h4, .int tcp, .int tkd, .int tsd, .int tlm, .int tfu, .int ttb, .int trb, .int tgr])), (h1, .inl (cI, 64, .inl tK)), (h2, .inl (cI, 64, .inl tV)), (h3, .inl (cI, 64, .inl tO)), (h4, .inl (cI, 64, .inl tW))]) (mX5_slotInSequence l D cB cC cI cO  h0 h1 h2 h3 h4 tcp tkd tsd tlm tfu ttb trb tgr tK tV tO tW v1 v2 r2 er2) hmX5_slotInSequence q_252 ⟨Nat.le_of_ble_eq_true rfl, Nat.le_of_ble_eq_true rfl⟩ ⟨Nat.le_of_ble_eq_true rfl, Nat.le_of_ble_eq_true rfl⟩ rfl rfl [0, 1, 2, 3, 4] rfl rfl rfl rfl rfl 0 rfl rfl rfl (Nat.le_of_ble_eq_true rfl) dX5_searchLength_14 ?_
      obtain ⟨r3, er3, hf⟩ := hl_bd hf
      try dsimp only at hf
      refine g_callVi C0 (ws' := [(h0, .inr (5, [.ref h1, .ref h2, .ref h3, .ref h4, .int tcp, .int tkd, .int tsd, .int tlm, .int tfu, .int ttb, .int trb, .int tgr])), (h1, .inl (cI, 64, .inl tK)), (h2, .inl (cI, 64, .inl tV)), (h3, .inl (cI, 64, .inl tO)), (h4, .inl (cI, 64, .inl tW))]) (mX5_content l D cB cC cI cO  h0 h1 h2 h3 h4 tcp tkd tsd tlm tfu ttb trb tgr tK tV tO tW r2 r3 er3) hmX5_content q_274 ⟨Nat.le_of_ble_eq_true rfl, Nat.le_of_ble_eq_true rfl⟩ ⟨Nat.le_of_ble_eq_true rfl, Nat.le_of_ble_eq_true rfl⟩ rfl rfl [0, 1, 2, 3, 4] rfl rfl rfl rfl rfl 0 rfl rfl rfl (Nat.le_of_ble_eq_true rfl) dX5_searchLength_17 ?_
      refine g_istore_n C0 (lv' := [(3, .int r3), (0, .ref h0), (1, .int v1), (2, .int v2)]) dX5_searchLength_20 rfl (by decide) rfl ?_
      refine g_iload_n C0 dX5_searchLength_21 rfl 0 rfl ?_
      refine g_iload_n C0 dX5_searchLength_22 rfl 2 rfl ?_
      refine g_icmp_eq C0 (tgt := 31) dX5_searchLength_23 (by decide) (fun c4 => ?_) (fun c4 => ?_)
      · rw [if_pos c4] at hf
        refine g_iload_n C0 dX5_searchLength_31 rfl 3 rfl ?_
        refine g_iconst C0 (v := (1 : Int32)) dX5_searchLength_32 (by decide) ?_
        refine g_iadd C0 dX5_searchLength_33 ?_
        cases hf
        exact g_iret C0 rfl dX5_searchLength_34 rfl rfl
      · rw [if_neg c4] at hf
        refine g_iload_n C0 dX5_searchLength_26 rfl 0 rfl ?_
        refine g_iconst C0 (v := (-1 : Int32)) dX5_searchLength_27 (by decide) ?_
        refine g_icmp_ne C0 (tgt := 35) dX5_searchLength_28 (by decide) (fun c5 => ?_) (fun c5 => ?_)
        · rw [if_neg c5] at hf
          refine g_iinc C0 (lv' := [(2, .int (v2 + (1 : Int32))), (3, .int r3), (0, .ref h0), (1, .int v1)]) dX5_searchLength_35 3 rfl rfl (by decide) rfl ?_
          refine g_goto C0 (tgt := 2) dX5_searchLength_38 (by decide) ?_
          refine g_lv [2, 3, 0] (lv' := [(0, .ref h0), (1, .int v1), (2, .int (v2 + (1 : Int32)))]) rfl ?_
          exact ih tcp tkd tsd tK v1 (v2 + (1 : Int32)) hf
        · rw [if_pos c5] at hf
          refine g_iload_n C0 dX5_searchLength_31 rfl 3 rfl ?_
          refine g_iconst C0 (v := (1 : Int32)) dX5_searchLength_32 (by decide) ?_
          refine g_iadd C0 dX5_searchLength_33 ?_
          cases hf
          exact g_iret C0 rfl dX5_searchLength_34 rfl rfl
set_option maxHeartbeats 4000000 in
set_option maxRecDepth 100000 in
theorem bX5_searchLength {p : Program} {l : Launch} {e : Env} {s : State} {m : MethodId} {args : Array Value} {below : List Frame} {meth : Method} {c : Code} {D : va_G} {cB cC cI cO : ClassId} {A : Nat → Prop} (C0 : gC RX5 cX5_searchLength 4 (some .int) p s m args meth c D (hTy cB cC cI cO) A) (h0 h1 h2 h3 h4 : Nat) (out : Int32) (tcp : Int32) (tkd : Int32) (tsd : Int32) (tlm : Int32) (tfu : Int32) (ttb : Int32) (trb : Int32) (tgr : Int32) (tK : Nat → Int32) (tV : Nat → Int32) (tO : Nat → Int32) (tW : Nat → Int32) (x0 : Int32) (hf : fX5_searchLength tcp tkd tsd tK x0 = some out) : gG p l e rmX5_searchLength s m args below meth c D A 4 (MQ below (hQi D [(h0, .inr (5, [.ref h1, .ref h2, .ref h3, .ref h4, .int tcp, .int tkd, .int tsd, .int tlm, .int tfu, .int ttb, .int trb, .int tgr])), (h1, .inl (cI, 64, .inl tK)), (h2, .inl (cI, 64, .inl tV)), (h3, .inl (cI, 64, .inl tO)), (h4, .inl (cI, 64, .inl tW))] out A) args s 0 0 A) 0 0 0 [(0, .ref h0), (1, .int x0)] [] [(h0, .inr (5, [.ref h1, .ref h2, .ref h3, .ref h4, .int tcp, .int tkd, .int tsd, .int tlm, .int tfu, .int ttb, .int trb, .int tgr])), (h1, .inl (cI, 64, .inl tK)), (h2, .inl (cI, 64, .inl tV)), (h3, .inl (cI, 64, .inl tO)), (h4, .inl (cI, 64, .inl tW))] := by
  unfold fX5_searchLength at hf
  refine g_iconst C0 (v := (0 : Int32)) dX5_searchLength_0 (by decide) ?_
  refine g_istore_n C0 (lv' := [(2, .int (0 : Int32)), (0, .ref h0), (1, .int x0)]) dX5_searchLength_1 rfl (by decide) rfl ?_
  refine g_lv [1, 2, 0] (lv' := [(0, .ref h0), (1, .int x0), (2, .int (0 : Int32))]) rfl ?_
  exact bX5_searchLength_2 C0 h0 h1 h2 h3 h4 out tlm tfu ttb trb tgr tV tO tW  1000 tcp tkd tsd tK x0 (0 : Int32) hf
theorem mX5_searchLength (l : Launch) (D : va_G) (cB cC cI cO : ClassId)  (h0 h1 h2 h3 h4 : Nat) (tcp : Int32) (tkd : Int32) (tsd : Int32) (tlm : Int32) (tfu : Int32) (ttb : Int32) (trb : Int32) (tgr : Int32) (tK : Nat → Int32) (tV : Nat → Int32) (tO : Nat → Int32) (tW : Nat → Int32) (x0 : Int32) (out : Int32) (hf : fX5_searchLength tcp tkd tsd tK x0 = some out) : ∀ sz, Met l yX5_searchLength (ws_ yX5_searchLength cX5_searchLength 4 (some .int)) rmX5_searchLength (va_Pc [.ref h0, .int x0] (hPre D (hTy cB cC cI cO) [(h0, .inr (5, [.ref h1, .ref h2, .ref h3, .ref h4, .int tcp, .int tkd, .int tsd, .int tlm, .int tfu, .int ttb, .int trb, .int tgr])), (h1, .inl (cI, 64, .inl tK)), (h2, .inl (cI, 64, .inl tV)), (h3, .inl (cI, 64, .inl tO)), (h4, .inl (cI, 64, .inl tW))] sz)) (hQi D [(h0, .inr (5, [.ref h1, .ref h2, .ref h3, .ref h4, .int tcp, .int tkd, .int tsd, .int tlm, .int tfu, .int ttb, .int trb, .int tgr])), (h1, .inl (cI, 64, .inl tK)), (h2, .inl (cI, 64, .inl tV)), (h3, .inl (cI, 64, .inl tO)), (h4, .inl (cI, 64, .inl tW))] out (va_A [(h0, .inr (5, [.ref h1, .ref h2, .ref h3, .ref h4, .int tcp, .int tkd, .int tsd, .int tlm, .int tfu, .int ttb, .int trb, .int tgr])), (h1, .inl (cI, 64, .inl tK)), (h2, .inl (cI, 64, .inl tV)), (h3, .inl (cI, 64, .inl tO)), (h4, .inl (cI, 64, .inl tW))] sz)) 0 0 (va_A [(h0, .inr (5, [.ref h1, .ref h2, .ref h3, .ref h4, .int tcp, .int tkd, .int tsd, .int tlm, .int tfu, .int ttb, .int trb, .int tgr])), (h1, .inl (cI, 64, .inl tK)), (h2, .inl (cI, 64, .inl tV)), (h3, .inl (cI, 64, .inl tO)), (h4, .inl (cI, 64, .inl tW))] sz) :=
  g_met (Qf := fun A => hQi D [(h0, .inr (5, [.ref h1, .ref h2, .ref h3, .ref h4, .int tcp, .int tkd, .int tsd, .int tlm, .int tfu, .int ttb, .int trb, .int tgr])), (h1, .inl (cI, 64, .inl tK)), (h2, .inl (cI, 64, .inl tV)), (h3, .inl (cI, 64, .inl tO)), (h4, .inl (cI, 64, .inl tW))] out A) (by decide +kernel) (Nat.le_of_ble_eq_true rfl) rfl (fun C0 => bX5_searchLength C0 h0 h1 h2 h3 h4 out tcp tkd tsd tlm tfu ttb trb tgr tK tV tO tW x0 hf)
abbrev rmX6_isKey : Room := { frames := 0, cells := 0, slots := 0, locals := 0 }
theorem hmX6_isKey : hMS yX6_isKey cX6_isKey 1 (some .boolean) 1 := ⟨q_247, q_12, q_246, by decide, by decide, by decide +kernel⟩
theorem dX6_isKey_0 : decode cX6_isKey 0 = .ok (.iload_n 0, 1) := by decide +kernel
theorem dX6_isKey_1 : decode cX6_isKey 1 = .ok (.ifCond .lt 14, 3) := by decide +kernel
theorem dX6_isKey_4 : decode cX6_isKey 4 = .ok (.iload_n 0, 1) := by decide +kernel
theorem dX6_isKey_5 : decode cX6_isKey 5 = .ok (.sipush 9999, 3) := by decide +kernel
theorem dX6_isKey_8 : decode cX6_isKey 8 = .ok (.if_icmp .gt 7, 3) := by decide +kernel
theorem dX6_isKey_11 : decode cX6_isKey 11 = .ok (.iconst 1, 1) := by decide +kernel
theorem dX6_isKey_12 : decode cX6_isKey 12 = .ok (.goto 4, 3) := by decide +kernel
theorem dX6_isKey_15 : decode cX6_isKey 15 = .ok (.iconst 0, 1) := by decide +kernel
theorem dX6_isKey_16 : decode cX6_isKey 16 = .ok (.ireturn, 1) := by decide +kernel
set_option maxHeartbeats 4000000 in
set_option maxRecDepth 100000 in
theorem bX6_isKey {p : Program} {l : Launch} {e : Env} {s : State} {m : MethodId} {args : Array Value} {below : List Frame} {meth : Method} {c : Code} {D : va_G} {cB cC cI cO : ClassId} {A : Nat → Prop} (C0 : gC RX6 cX6_isKey 1 (some .boolean) p s m args meth c D (hTy cB cC cI cO) A)  (out : Int32)  (x0 : Int32) (hf : fX6_isKey x0 = some out) : gG p l e rmX6_isKey s m args below meth c D A 1 (MQ below (hQi D [] out A) args s 0 0 A) 0 0 0 [(0, .int x0)] [] [] := by
  unfold fX6_isKey at hf
  refine g_iload_n C0 dX6_isKey_0 rfl 0 rfl ?_
  refine g_if_lt C0 (tgt := 15) dX6_isKey_1 (by decide) (fun c1 => ?_) (fun c1 => ?_)
  · rw [if_pos c1] at hf
    refine g_iconst C0 (v := (0 : Int32)) dX6_isKey_15 (by decide) ?_
    cases hf
    exact g_iret C0 rfl dX6_isKey_16 rfl rfl
  · rw [if_neg c1] at hf
    refine g_iload_n C0 dX6_isKey_4 rfl 0 rfl ?_
    refine g_sipush C0 (v := (9999 : Int32)) dX6_isKey_5 (by decide) ?_
    refine g_icmp_gt C0 (tgt := 15) dX6_isKey_8 (by decide) (fun c2 => ?_) (fun c2 => ?_)
    · rw [if_pos c2] at hf
      refine g_iconst C0 (v := (0 : Int32)) dX6_isKey_15 (by decide) ?_
      cases hf
      exact g_iret C0 rfl dX6_isKey_16 rfl rfl
    · rw [if_neg c2] at hf
      refine g_iconst C0 (v := (1 : Int32)) dX6_isKey_11 (by decide) ?_
      refine g_goto C0 (tgt := 16) dX6_isKey_12 (by decide) ?_
      cases hf
      exact g_iret C0 rfl dX6_isKey_16 rfl rfl
theorem mX6_isKey (l : Launch) (D : va_G) (cB cC cI cO : ClassId)    (x0 : Int32) (out : Int32) (hf : fX6_isKey x0 = some out) : ∀ sz, Met l yX6_isKey (ws_ yX6_isKey cX6_isKey 1 (some .boolean)) rmX6_isKey (va_Pc [.int x0] (hPre D (hTy cB cC cI cO) [] sz)) (hQi D [] out (va_A [] sz)) 0 0 (va_A [] sz) :=
  g_met (Qf := fun A => hQi D [] out A) (by decide +kernel) (Nat.le_of_ble_eq_true rfl) rfl (fun C0 => bX6_isKey C0  out  x0 hf)
abbrev rmX5_slotHolding : Room := { frames := 3, cells := 0, slots := 0, locals := 68 }
theorem hmX5_slotHolding : hMV yX5_slotHolding cX5_slotHolding 3 (some .int) 1 := ⟨q_244, q_13, q_242, q_243, by decide, by decide, by decide +kernel⟩
theorem dX5_slotHolding_0 : decode cX5_slotHolding 0 = .ok (.iload_n 1, 1) := by decide +kernel
theorem dX5_slotHolding_1 : decode cX5_slotHolding 1 = .ok (.invokestatic 91, 3) := by decide +kernel
theorem dX5_slotHolding_4 : decode cX5_slotHolding 4 = .ok (.ifCond .ne 5, 3) := by decide +kernel
theorem dX5_slotHolding_7 : decode cX5_slotHolding 7 = .ok (.iconst (-1), 1) := by decide +kernel
theorem dX5_slotHolding_8 : decode cX5_slotHolding 8 = .ok (.ireturn, 1) := by decide +kernel
theorem dX5_slotHolding_9 : decode cX5_slotHolding 9 = .ok (.aload_n 0, 1) := by decide +kernel
theorem dX5_slotHolding_10 : decode cX5_slotHolding 10 = .ok (.iload_n 1, 1) := by decide +kernel
theorem dX5_slotHolding_11 : decode cX5_slotHolding 11 = .ok (.aload_n 0, 1) := by decide +kernel
theorem dX5_slotHolding_12 : decode cX5_slotHolding 12 = .ok (.iload_n 1, 1) := by decide +kernel
theorem dX5_slotHolding_13 : decode cX5_slotHolding 13 = .ok (.invokevirtual 94, 3) := by decide +kernel
theorem dX5_slotHolding_16 : decode cX5_slotHolding 16 = .ok (.iconst 1, 1) := by decide +kernel
theorem dX5_slotHolding_17 : decode cX5_slotHolding 17 = .ok (.isub, 1) := by decide +kernel
theorem dX5_slotHolding_18 : decode cX5_slotHolding 18 = .ok (.invokevirtual 88, 3) := by decide +kernel
theorem dX5_slotHolding_21 : decode cX5_slotHolding 21 = .ok (.istore_n 2, 1) := by decide +kernel
theorem dX5_slotHolding_22 : decode cX5_slotHolding 22 = .ok (.aload_n 0, 1) := by decide +kernel
theorem dX5_slotHolding_23 : decode cX5_slotHolding 23 = .ok (.iload_n 2, 1) := by decide +kernel
theorem dX5_slotHolding_24 : decode cX5_slotHolding 24 = .ok (.invokevirtual 69, 3) := by decide +kernel
theorem dX5_slotHolding_27 : decode cX5_slotHolding 27 = .ok (.iload_n 1, 1) := by decide +kernel
theorem dX5_slotHolding_28 : decode cX5_slotHolding 28 = .ok (.if_icmp .ne 7, 3) := by decide +kernel
theorem dX5_slotHolding_31 : decode cX5_slotHolding 31 = .ok (.iload_n 2, 1) := by decide +kernel
theorem dX5_slotHolding_32 : decode cX5_slotHolding 32 = .ok (.goto 4, 3) := by decide +kernel
theorem dX5_slotHolding_35 : decode cX5_slotHolding 35 = .ok (.iconst (-1), 1) := by decide +kernel
theorem dX5_slotHolding_36 : decode cX5_slotHolding 36 = .ok (.ireturn, 1) := by decide +kernel
set_option maxHeartbeats 4000000 in
set_option maxRecDepth 100000 in
theorem bX5_slotHolding {p : Program} {l : Launch} {e : Env} {s : State} {m : MethodId} {args : Array Value} {below : List Frame} {meth : Method} {c : Code} {D : va_G} {cB cC cI cO : ClassId} {A : Nat → Prop} (C0 : gC RX5 cX5_slotHolding 3 (some .int) p s m args meth c D (hTy cB cC cI cO) A) (h0 h1 h2 h3 h4 : Nat) (out : Int32) (tcp : Int32) (tkd : Int32) (tsd : Int32) (tlm : Int32) (tfu : Int32) (ttb : Int32) (trb : Int32) (tgr : Int32) (tK : Nat → Int32) (tV : Nat → Int32) (tO : Nat → Int32) (tW : Nat → Int32) (x0 : Int32) (hf : fX5_slotHolding tcp tkd tsd tK x0 = some out) : gG p l e rmX5_slotHolding s m args below meth c D A 3 (MQ below (hQi D [(h0, .inr (5, [.ref h1, .ref h2, .ref h3, .ref h4, .int tcp, .int tkd, .int tsd, .int tlm, .int tfu, .int ttb, .int trb, .int tgr])), (h1, .inl (cI, 64, .inl tK)), (h2, .inl (cI, 64, .inl tV)), (h3, .inl (cI, 64, .inl tO)), (h4, .inl (cI, 64, .inl tW))] out A) args s 0 0 A) 0 0 0 [(0, .ref h0), (1, .int x0)] [] [(h0, .inr (5, [.ref h1, .ref h2, .ref h3, .ref h4, .int tcp, .int tkd, .int tsd, .int tlm, .int tfu, .int ttb, .int trb, .int tgr])), (h1, .inl (cI, 64, .inl tK)), (h2, .inl (cI, 64, .inl tV)), (h3, .inl (cI, 64, .inl tO)), (h4, .inl (cI, 64, .inl tW))] := by
  unfold fX5_slotHolding at hf
  refine g_iload_n C0 dX5_slotHolding_0 rfl 1 rfl ?_
  obtain ⟨r1, er1, hf⟩ := hl_bd hf
  try dsimp only at hf
  refine g_callSNi C0 (ws' := [(h0, .inr (5, [.ref h1, .ref h2, .ref h3, .ref h4, .int tcp, .int tkd, .int tsd, .int tlm, .int tfu, .int ttb, .int trb, .int tgr])), (h1, .inl (cI, 64, .inl tK)), (h2, .inl (cI, 64, .inl tV)), (h3, .inl (cI, 64, .inl tO)), (h4, .inl (cI, 64, .inl tW))]) (mX6_isKey l D cB cC cI cO    x0 r1 er1) hmX6_isKey q_245 ⟨Nat.le_of_ble_eq_true rfl, Nat.le_of_ble_eq_true rfl⟩ ⟨Nat.le_of_ble_eq_true rfl, Nat.le_of_ble_eq_true rfl⟩ rfl rfl [] rfl rfl rfl rfl rfl rfl (Nat.le_of_ble_eq_true rfl) dX5_slotHolding_1 ?_
  refine g_if_ne C0 (tgt := 9) dX5_slotHolding_4 (by decide) (fun c2 => ?_) (fun c2 => ?_)
  · rw [if_neg c2] at hf
    refine g_aload_n C0 dX5_slotHolding_9 rfl 0 rfl ?_
    refine g_iload_n C0 dX5_slotHolding_10 rfl 1 rfl ?_
    refine g_aload_n C0 dX5_slotHolding_11 rfl 0 rfl ?_
    refine g_iload_n C0 dX5_slotHolding_12 rfl 1 rfl ?_
    obtain ⟨r3, er3, hf⟩ := hl_bd hf
    try dsimp only at hf
    refine g_callVi C0 (ws' := [(h0, .inr (5, [.ref h1, .ref h2, .ref h3, .ref h4, .int tcp, .int tkd, .int tsd, .int tlm, .int tfu, .int ttb, .int trb, .int tgr])), (h1, .inl (cI, 64, .inl tK)), (h2, .inl (cI, 64, .inl tV)), (h3, .inl (cI, 64, .inl tO)), (h4, .inl (cI, 64, .inl tW))]) (mX5_searchLength l D cB cC cI cO  h0 h1 h2 h3 h4 tcp tkd tsd tlm tfu ttb trb tgr tK tV tO tW x0 r3 er3) hmX5_searchLength q_248 ⟨Nat.le_of_ble_eq_true rfl, Nat.le_of_ble_eq_true rfl⟩ ⟨Nat.le_of_ble_eq_true rfl, Nat.le_of_ble_eq_true rfl⟩ rfl rfl [0, 1, 2, 3, 4] rfl rfl rfl rfl rfl 0 rfl rfl rfl (Nat.le_of_ble_eq_true rfl) dX5_slotHolding_13 ?_
    refine g_iconst C0 (v := (1 : Int32)) dX5_slotHolding_16 (by decide) ?_
    refine g_isub C0 dX5_slotHolding_17 ?_
    obtain ⟨r4, er4, hf⟩ := hl_bd hf
    try dsimp only at hf
    refine g_callVi C0 (ws' := [(h0, .inr (5, [.ref h1, .ref h2, .ref h3, .ref h4, .int tcp, .int tkd, .int tsd, .int tlm, .int tfu, .int ttb, .int trb, .int tgr])), (h1, .inl (cI, 64, .inl tK)), (h2, .inl (cI, 64, .inl tV)), (h3, .inl (cI, 64, .inl tO)), (h4, .inl (cI, 64, .inl tW))]) (mX5_slotInSequence l D cB cC cI cO  h0 h1 h2 h3 h4 tcp tkd tsd tlm tfu ttb trb tgr tK tV tO tW x0 (r3 - (1 : Int32)) r4 er4) hmX5_slotInSequence q_252 ⟨Nat.le_of_ble_eq_true rfl, Nat.le_of_ble_eq_true rfl⟩ ⟨Nat.le_of_ble_eq_true rfl, Nat.le_of_ble_eq_true rfl⟩ rfl rfl [0, 1, 2, 3, 4] rfl rfl rfl rfl rfl 0 rfl rfl rfl (Nat.le_of_ble_eq_true rfl) dX5_slotHolding_18 ?_
    refine g_istore_n C0 (lv' := [(2, .int r4), (0, .ref h0), (1, .int x0)]) dX5_slotHolding_21 rfl (by decide) rfl ?_
    refine g_aload_n C0 dX5_slotHolding_22 rfl 1 rfl ?_
    refine g_iload_n C0 dX5_slotHolding_23 rfl 0 rfl ?_
    obtain ⟨r5, er5, hf⟩ := hl_bd hf
    try dsimp only at hf
    refine g_callVi C0 (ws' := [(h0, .inr (5, [.ref h1, .ref h2, .ref h3, .ref h4, .int tcp, .int tkd, .int tsd, .int tlm, .int tfu, .int ttb, .int trb, .int tgr])), (h1, .inl (cI, 64, .inl tK)), (h2, .inl (cI, 64, .inl tV)), (h3, .inl (cI, 64, .inl tO)), (h4, .inl (cI, 64, .inl tW))]) (mX5_content l D cB cC cI cO  h0 h1 h2 h3 h4 tcp tkd tsd tlm tfu ttb trb tgr tK tV tO tW r4 r5 er5) hmX5_content q_274 ⟨Nat.le_of_ble_eq_true rfl, Nat.le_of_ble_eq_true rfl⟩ ⟨Nat.le_of_ble_eq_true rfl, Nat.le_of_ble_eq_true rfl⟩ rfl rfl [0, 1, 2, 3, 4] rfl rfl rfl rfl rfl 0 rfl rfl rfl (Nat.le_of_ble_eq_true rfl) dX5_slotHolding_24 ?_
    refine g_iload_n C0 dX5_slotHolding_27 rfl 2 rfl ?_
    refine g_icmp_ne C0 (tgt := 35) dX5_slotHolding_28 (by decide) (fun c6 => ?_) (fun c6 => ?_)
    · rw [if_neg c6] at hf
      refine g_iconst C0 (v := (-1 : Int32)) dX5_slotHolding_35 (by decide) ?_
      cases hf
      exact g_iret C0 rfl dX5_slotHolding_36 rfl rfl
    · rw [if_pos c6] at hf
      refine g_iload_n C0 dX5_slotHolding_31 rfl 0 rfl ?_
      refine g_goto C0 (tgt := 36) dX5_slotHolding_32 (by decide) ?_
      cases hf
      exact g_iret C0 rfl dX5_slotHolding_36 rfl rfl
  · rw [if_pos c2] at hf
    refine g_iconst C0 (v := (-1 : Int32)) dX5_slotHolding_7 (by decide) ?_
    cases hf
    exact g_iret C0 rfl dX5_slotHolding_8 rfl rfl
theorem mX5_slotHolding (l : Launch) (D : va_G) (cB cC cI cO : ClassId)  (h0 h1 h2 h3 h4 : Nat) (tcp : Int32) (tkd : Int32) (tsd : Int32) (tlm : Int32) (tfu : Int32) (ttb : Int32) (trb : Int32) (tgr : Int32) (tK : Nat → Int32) (tV : Nat → Int32) (tO : Nat → Int32) (tW : Nat → Int32) (x0 : Int32) (out : Int32) (hf : fX5_slotHolding tcp tkd tsd tK x0 = some out) : ∀ sz, Met l yX5_slotHolding (ws_ yX5_slotHolding cX5_slotHolding 3 (some .int)) rmX5_slotHolding (va_Pc [.ref h0, .int x0] (hPre D (hTy cB cC cI cO) [(h0, .inr (5, [.ref h1, .ref h2, .ref h3, .ref h4, .int tcp, .int tkd, .int tsd, .int tlm, .int tfu, .int ttb, .int trb, .int tgr])), (h1, .inl (cI, 64, .inl tK)), (h2, .inl (cI, 64, .inl tV)), (h3, .inl (cI, 64, .inl tO)), (h4, .inl (cI, 64, .inl tW))] sz)) (hQi D [(h0, .inr (5, [.ref h1, .ref h2, .ref h3, .ref h4, .int tcp, .int tkd, .int tsd, .int tlm, .int tfu, .int ttb, .int trb, .int tgr])), (h1, .inl (cI, 64, .inl tK)), (h2, .inl (cI, 64, .inl tV)), (h3, .inl (cI, 64, .inl tO)), (h4, .inl (cI, 64, .inl tW))] out (va_A [(h0, .inr (5, [.ref h1, .ref h2, .ref h3, .ref h4, .int tcp, .int tkd, .int tsd, .int tlm, .int tfu, .int ttb, .int trb, .int tgr])), (h1, .inl (cI, 64, .inl tK)), (h2, .inl (cI, 64, .inl tV)), (h3, .inl (cI, 64, .inl tO)), (h4, .inl (cI, 64, .inl tW))] sz)) 0 0 (va_A [(h0, .inr (5, [.ref h1, .ref h2, .ref h3, .ref h4, .int tcp, .int tkd, .int tsd, .int tlm, .int tfu, .int ttb, .int trb, .int tgr])), (h1, .inl (cI, 64, .inl tK)), (h2, .inl (cI, 64, .inl tV)), (h3, .inl (cI, 64, .inl tO)), (h4, .inl (cI, 64, .inl tW))] sz) :=
  g_met (Qf := fun A => hQi D [(h0, .inr (5, [.ref h1, .ref h2, .ref h3, .ref h4, .int tcp, .int tkd, .int tsd, .int tlm, .int tfu, .int ttb, .int trb, .int tgr])), (h1, .inl (cI, 64, .inl tK)), (h2, .inl (cI, 64, .inl tV)), (h3, .inl (cI, 64, .inl tO)), (h4, .inl (cI, 64, .inl tW))] out A) (by decide +kernel) (Nat.le_of_ble_eq_true rfl) rfl (fun C0 => bX5_slotHolding C0 h0 h1 h2 h3 h4 out tcp tkd tsd tlm tfu ttb trb tgr tK tV tO tW x0 hf)
abbrev rmX5_distanceTo : Room := { frames := 1, cells := 0, slots := 0, locals := 22 }
theorem hmX5_distanceTo : hMV yX5_distanceTo cX5_distanceTo 7 (some .int) 2 := ⟨q_424, q_13, q_422, q_423, by decide, by decide, by decide +kernel⟩
theorem dX5_distanceTo_0 : decode cX5_distanceTo 0 = .ok (.aload_n 0, 1) := by decide +kernel
theorem dX5_distanceTo_1 : decode cX5_distanceTo 1 = .ok (.iload_n 2, 1) := by decide +kernel
theorem dX5_distanceTo_2 : decode cX5_distanceTo 2 = .ok (.invokevirtual 75, 3) := by decide +kernel
theorem dX5_distanceTo_5 : decode cX5_distanceTo 5 = .ok (.istore_n 3, 1) := by decide +kernel
theorem dX5_distanceTo_6 : decode cX5_distanceTo 6 = .ok (.aload_n 0, 1) := by decide +kernel
theorem dX5_distanceTo_7 : decode cX5_distanceTo 7 = .ok (.iload_n 1, 1) := by decide +kernel
theorem dX5_distanceTo_8 : decode cX5_distanceTo 8 = .ok (.aload_n 0, 1) := by decide +kernel
theorem dX5_distanceTo_9 : decode cX5_distanceTo 9 = .ok (.iload_n 3, 1) := by decide +kernel
theorem dX5_distanceTo_10 : decode cX5_distanceTo 10 = .ok (.invokevirtual 78, 3) := by decide +kernel
theorem dX5_distanceTo_13 : decode cX5_distanceTo 13 = .ok (.isub, 1) := by decide +kernel
theorem dX5_distanceTo_14 : decode cX5_distanceTo 14 = .ok (.invokevirtual 78, 3) := by decide +kernel
theorem dX5_distanceTo_17 : decode cX5_distanceTo 17 = .ok (.istore 4, 2) := by decide +kernel
theorem dX5_distanceTo_19 : decode cX5_distanceTo 19 = .ok (.aload_n 0, 1) := by decide +kernel
theorem dX5_distanceTo_20 : decode cX5_distanceTo 20 = .ok (.iload_n 3, 1) := by decide +kernel
theorem dX5_distanceTo_21 : decode cX5_distanceTo 21 = .ok (.invokevirtual 81, 3) := by decide +kernel
theorem dX5_distanceTo_24 : decode cX5_distanceTo 24 = .ok (.istore 5, 2) := by decide +kernel
theorem dX5_distanceTo_26 : decode cX5_distanceTo 26 = .ok (.iconst 0, 1) := by decide +kernel
theorem dX5_distanceTo_27 : decode cX5_distanceTo 27 = .ok (.istore 6, 2) := by decide +kernel
theorem dX5_distanceTo_29 : decode cX5_distanceTo 29 = .ok (.iload 6, 2) := by decide +kernel
theorem dX5_distanceTo_31 : decode cX5_distanceTo 31 = .ok (.aload_n 0, 1) := by decide +kernel
theorem dX5_distanceTo_32 : decode cX5_distanceTo 32 = .ok (.getfield 31, 3) := by decide +kernel
theorem dX5_distanceTo_35 : decode cX5_distanceTo 35 = .ok (.if_icmp .ge 31, 3) := by decide +kernel
theorem dX5_distanceTo_38 : decode cX5_distanceTo 38 = .ok (.aload_n 0, 1) := by decide +kernel
theorem dX5_distanceTo_39 : decode cX5_distanceTo 39 = .ok (.aload_n 0, 1) := by decide +kernel
theorem dX5_distanceTo_40 : decode cX5_distanceTo 40 = .ok (.iload 6, 2) := by decide +kernel
theorem dX5_distanceTo_42 : decode cX5_distanceTo 42 = .ok (.iload 5, 2) := by decide +kernel
theorem dX5_distanceTo_44 : decode cX5_distanceTo 44 = .ok (.invokevirtual 84, 3) := by decide +kernel
theorem dX5_distanceTo_47 : decode cX5_distanceTo 47 = .ok (.invokevirtual 78, 3) := by decide +kernel
theorem dX5_distanceTo_50 : decode cX5_distanceTo 50 = .ok (.iload 4, 2) := by decide +kernel
theorem dX5_distanceTo_52 : decode cX5_distanceTo 52 = .ok (.if_icmp .ne 8, 3) := by decide +kernel
theorem dX5_distanceTo_55 : decode cX5_distanceTo 55 = .ok (.iload 6, 2) := by decide +kernel
theorem dX5_distanceTo_57 : decode cX5_distanceTo 57 = .ok (.iconst 1, 1) := by decide +kernel
theorem dX5_distanceTo_58 : decode cX5_distanceTo 58 = .ok (.iadd, 1) := by decide +kernel
theorem dX5_distanceTo_59 : decode cX5_distanceTo 59 = .ok (.ireturn, 1) := by decide +kernel
theorem dX5_distanceTo_60 : decode cX5_distanceTo 60 = .ok (.iinc 6 1, 3) := by decide +kernel
theorem dX5_distanceTo_63 : decode cX5_distanceTo 63 = .ok (.goto (-34), 3) := by decide +kernel
theorem dX5_distanceTo_66 : decode cX5_distanceTo 66 = .ok (.aload_n 0, 1) := by decide +kernel
theorem dX5_distanceTo_67 : decode cX5_distanceTo 67 = .ok (.getfield 31, 3) := by decide +kernel
theorem dX5_distanceTo_70 : decode cX5_distanceTo 70 = .ok (.ireturn, 1) := by decide +kernel
set_option maxHeartbeats 4000000 in
set_option maxRecDepth 100000 in
theorem bX5_distanceTo_29 {p : Program} {l : Launch} {e : Env} {s : State} {m : MethodId} {args : Array Value} {below : List Frame} {meth : Method} {c : Code} {D : va_G} {cB cC cI cO : ClassId} {A : Nat → Prop} (C0 : gC RX5 cX5_distanceTo 7 (some .int) p s m args meth c D (hTy cB cC cI cO) A) (h0 h1 h2 h3 h4 : Nat) (out : Int32) (tlm : Int32) (tfu : Int32) (ttb : Int32) (trb : Int32) (tgr : Int32) (tK : Nat → Int32) (tV : Nat → Int32) (tO : Nat → Int32) (tW : Nat → Int32)   : ∀ (n : Nat) (tcp : Int32) (tkd : Int32) (tsd : Int32) (v4 : Int32) (v5 : Int32) (v6 : Int32), fX5_distanceTo_29 n tcp tkd tsd v4 v5 v6 = some out → gG p l e rmX5_distanceTo s m args below meth c D A 7 (MQ below (hQi D [(h0, .inr (5, [.ref h1, .ref h2, .ref h3, .ref h4, .int tcp, .int tkd, .int tsd, .int tlm, .int tfu, .int ttb, .int trb, .int tgr])), (h1, .inl (cI, 64, .inl tK)), (h2, .inl (cI, 64, .inl tV)), (h3, .inl (cI, 64, .inl tO)), (h4, .inl (cI, 64, .inl tW))] out A) args s 0 0 A) 0 0 29 [(0, .ref h0), (4, .int v4), (5, .int v5), (6, .int v6)] [] [(h0, .inr (5, [.ref h1, .ref h2, .ref h3, .ref h4, .int tcp, .int tkd, .int tsd, .int tlm, .int tfu, .int ttb, .int trb, .int tgr])), (h1, .inl (cI, 64, .inl tK)), (h2, .inl (cI, 64, .inl tV)), (h3, .inl (cI, 64, .inl tO)), (h4, .inl (cI, 64, .inl tW))] := by
  intro n
  induction n with
  | zero => intro tcp tkd tsd v4 v5 v6 hf; rw [fX5_distanceTo_29] at hf; cases hf
  | succ n ih =>
    intro tcp tkd tsd v4 v5 v6 hf
    rw [fX5_distanceTo_29] at hf
    refine g_iload C0 dX5_distanceTo_29 3 rfl ?_
    refine g_aload_n C0 dX5_distanceTo_31 rfl 0 rfl ?_
    refine g_get C0 hinX5 0 rfl rfl 4 (by decide) q_64 rfl dX5_distanceTo_32 ?_
    refine g_icmp_ge C0 (tgt := 66) dX5_distanceTo_35 (by decide) (fun c5 => ?_) (fun c5 => ?_)
    · rw [if_pos c5] at hf
      refine g_aload_n C0 dX5_distanceTo_66 rfl 0 rfl ?_
      refine g_get C0 hinX5 0 rfl rfl 4 (by decide) q_64 rfl dX5_distanceTo_67 ?_
      cases hf
      exact g_iret C0 rfl dX5_distanceTo_70 rfl rfl
    · rw [if_neg c5] at hf
      refine g_aload_n C0 dX5_distanceTo_38 rfl 0 rfl ?_
      refine g_aload_n C0 dX5_distanceTo_39 rfl 0 rfl ?_
      refine g_iload C0 dX5_distanceTo_40 3 rfl ?_
      refine g_iload C0 dX5_distanceTo_42 2 rfl ?_
      obtain ⟨r6, er6, hf⟩ := hl_bd hf
      try dsimp only at hf
      refine g_callVi C0 (ws' := [(h0, .inr (5, [.ref h1, .ref h2, .ref h3, .ref h4, .int tcp, .int tkd, .int tsd, .int tlm, .int tfu, .int ttb, .int trb, .int tgr])), (h1, .inl (cI, 64, .inl tK)), (h2, .inl (cI, 64, .inl tV)), (h3, .inl (cI, 64, .inl tO)), (h4, .inl (cI, 64, .inl tW))]) (mX5_offsetAt l D cB cC cI cO  h0 h1 h2 h3 h4 tcp tkd tsd tlm tfu ttb trb tgr tK tV tO tW v6 v5 r6 er6) hmX5_offsetAt q_270 ⟨Nat.le_of_ble_eq_true rfl, Nat.le_of_ble_eq_true rfl⟩ ⟨Nat.le_of_ble_eq_true rfl, Nat.le_of_ble_eq_true rfl⟩ rfl rfl [0, 1, 2, 3, 4] rfl rfl rfl rfl rfl 0 rfl rfl rfl (Nat.le_of_ble_eq_true rfl) dX5_distanceTo_44 ?_
      obtain ⟨r7, er7, hf⟩ := hl_bd hf
      try dsimp only at hf
      refine g_callVi C0 (ws' := [(h0, .inr (5, [.ref h1, .ref h2, .ref h3, .ref h4, .int tcp, .int tkd, .int tsd, .int tlm, .int tfu, .int ttb, .int trb, .int tgr])), (h1, .inl (cI, 64, .inl tK)), (h2, .inl (cI, 64, .inl tV)), (h3, .inl (cI, 64, .inl tO)), (h4, .inl (cI, 64, .inl tW))]) (mX5_wrap l D cB cC cI cO  h0 h1 h2 h3 h4 tcp tkd tsd tlm tfu ttb trb tgr tK tV tO tW r6 r7 er7) hmX5_wrap q_262 ⟨Nat.le_of_ble_eq_true rfl, Nat.le_of_ble_eq_true rfl⟩ ⟨Nat.le_of_ble_eq_true rfl, Nat.le_of_ble_eq_true rfl⟩ rfl rfl [0, 1, 2, 3, 4] rfl rfl rfl rfl rfl 0 rfl rfl rfl (Nat.le_of_ble_eq_true rfl) dX5_distanceTo_47 ?_
      refine g_iload C0 dX5_distanceTo_50 1 rfl ?_
      refine g_icmp_ne C0 (tgt := 60) dX5_distanceTo_52 (by decide) (fun c8 => ?_) (fun c8 => ?_)
      · rw [if_neg c8] at hf
        refine g_iinc C0 (lv' := [(6, .int (v6 + (1 : Int32))), (0, .ref h0), (4, .int v4), (5, .int v5)]) dX5_distanceTo_60 3 rfl rfl (by decide) rfl ?_
        refine g_goto C0 (tgt := 29) dX5_distanceTo_63 (by decide) ?_
        refine g_lv [1, 2, 3, 0] (lv' := [(0, .ref h0), (4, .int v4), (5, .int v5), (6, .int (v6 + (1 : Int32)))]) rfl ?_
        exact ih tcp tkd tsd v4 v5 (v6 + (1 : Int32)) hf
      · rw [if_pos c8] at hf
        refine g_iload C0 dX5_distanceTo_55 3 rfl ?_
        refine g_iconst C0 (v := (1 : Int32)) dX5_distanceTo_57 (by decide) ?_
        refine g_iadd C0 dX5_distanceTo_58 ?_
        cases hf
        exact g_iret C0 rfl dX5_distanceTo_59 rfl rfl
set_option maxHeartbeats 4000000 in
set_option maxRecDepth 100000 in
theorem bX5_distanceTo {p : Program} {l : Launch} {e : Env} {s : State} {m : MethodId} {args : Array Value} {below : List Frame} {meth : Method} {c : Code} {D : va_G} {cB cC cI cO : ClassId} {A : Nat → Prop} (C0 : gC RX5 cX5_distanceTo 7 (some .int) p s m args meth c D (hTy cB cC cI cO) A) (h0 h1 h2 h3 h4 : Nat) (out : Int32) (tcp : Int32) (tkd : Int32) (tsd : Int32) (tlm : Int32) (tfu : Int32) (ttb : Int32) (trb : Int32) (tgr : Int32) (tK : Nat → Int32) (tV : Nat → Int32) (tO : Nat → Int32) (tW : Nat → Int32) (x0 : Int32) (x1 : Int32) (hf : fX5_distanceTo tcp tkd tsd x0 x1 = some out) : gG p l e rmX5_distanceTo s m args below meth c D A 7 (MQ below (hQi D [(h0, .inr (5, [.ref h1, .ref h2, .ref h3, .ref h4, .int tcp, .int tkd, .int tsd, .int tlm, .int tfu, .int ttb, .int trb, .int tgr])), (h1, .inl (cI, 64, .inl tK)), (h2, .inl (cI, 64, .inl tV)), (h3, .inl (cI, 64, .inl tO)), (h4, .inl (cI, 64, .inl tW))] out A) args s 0 0 A) 0 0 0 [(0, .ref h0), (1, .int x0), (2, .int x1)] [] [(h0, .inr (5, [.ref h1, .ref h2, .ref h3, .ref h4, .int tcp, .int tkd, .int tsd, .int tlm, .int tfu, .int ttb, .int trb, .int tgr])), (h1, .inl (cI, 64, .inl tK)), (h2, .inl (cI, 64, .inl tV)), (h3, .inl (cI, 64, .inl tO)), (h4, .inl (cI, 64, .inl tW))] := by
  unfold fX5_distanceTo at hf
  refine g_aload_n C0 dX5_distanceTo_0 rfl 0 rfl ?_
  refine g_iload_n C0 dX5_distanceTo_1 rfl 2 rfl ?_
  obtain ⟨r1, er1, hf⟩ := hl_bd hf
  try dsimp only at hf
  refine g_callVi C0 (ws' := [(h0, .inr (5, [.ref h1, .ref h2, .ref h3, .ref h4, .int tcp, .int tkd, .int tsd, .int tlm, .int tfu, .int ttb, .int trb, .int tgr])), (h1, .inl (cI, 64, .inl tK)), (h2, .inl (cI, 64, .inl tV)), (h3, .inl (cI, 64, .inl tO)), (h4, .inl (cI, 64, .inl tW))]) (mX5_hashOf l D cB cC cI cO  h0 h1 h2 h3 h4 tcp tkd tsd tlm tfu ttb trb tgr tK tV tO tW x1 r1 er1) hmX5_hashOf q_256 ⟨Nat.le_of_ble_eq_true rfl, Nat.le_of_ble_eq_true rfl⟩ ⟨Nat.le_of_ble_eq_true rfl, Nat.le_of_ble_eq_true rfl⟩ rfl rfl [0, 1, 2, 3, 4] rfl rfl rfl rfl rfl 0 rfl rfl rfl (Nat.le_of_ble_eq_true rfl) dX5_distanceTo_2 ?_
  refine g_istore_n C0 (lv' := [(3, .int r1), (0, .ref h0), (1, .int x0), (2, .int x1)]) dX5_distanceTo_5 rfl (by decide) rfl ?_
  refine g_aload_n C0 dX5_distanceTo_6 rfl 1 rfl ?_
  refine g_iload_n C0 dX5_distanceTo_7 rfl 2 rfl ?_
  refine g_aload_n C0 dX5_distanceTo_8 rfl 1 rfl ?_
  refine g_iload_n C0 dX5_distanceTo_9 rfl 0 rfl ?_
  obtain ⟨r2, er2, hf⟩ := hl_bd hf
  try dsimp only at hf
  refine g_callVi C0 (ws' := [(h0, .inr (5, [.ref h1, .ref h2, .ref h3, .ref h4, .int tcp, .int tkd, .int tsd, .int tlm, .int tfu, .int ttb, .int trb, .int tgr])), (h1, .inl (cI, 64, .inl tK)), (h2, .inl (cI, 64, .inl tV)), (h3, .inl (cI, 64, .inl tO)), (h4, .inl (cI, 64, .inl tW))]) (mX5_wrap l D cB cC cI cO  h0 h1 h2 h3 h4 tcp tkd tsd tlm tfu ttb trb tgr tK tV tO tW r1 r2 er2) hmX5_wrap q_262 ⟨Nat.le_of_ble_eq_true rfl, Nat.le_of_ble_eq_true rfl⟩ ⟨Nat.le_of_ble_eq_true rfl, Nat.le_of_ble_eq_true rfl⟩ rfl rfl [0, 1, 2, 3, 4] rfl rfl rfl rfl rfl 0 rfl rfl rfl (Nat.le_of_ble_eq_true rfl) dX5_distanceTo_10 ?_
  refine g_isub C0 dX5_distanceTo_13 ?_
  obtain ⟨r3, er3, hf⟩ := hl_bd hf
  try dsimp only at hf
  refine g_callVi C0 (ws' := [(h0, .inr (5, [.ref h1, .ref h2, .ref h3, .ref h4, .int tcp, .int tkd, .int tsd, .int tlm, .int tfu, .int ttb, .int trb, .int tgr])), (h1, .inl (cI, 64, .inl tK)), (h2, .inl (cI, 64, .inl tV)), (h3, .inl (cI, 64, .inl tO)), (h4, .inl (cI, 64, .inl tW))]) (mX5_wrap l D cB cC cI cO  h0 h1 h2 h3 h4 tcp tkd tsd tlm tfu ttb trb tgr tK tV tO tW (x0 - r2) r3 er3) hmX5_wrap q_262 ⟨Nat.le_of_ble_eq_true rfl, Nat.le_of_ble_eq_true rfl⟩ ⟨Nat.le_of_ble_eq_true rfl, Nat.le_of_ble_eq_true rfl⟩ rfl rfl [0, 1, 2, 3, 4] rfl rfl rfl rfl rfl 0 rfl rfl rfl (Nat.le_of_ble_eq_true rfl) dX5_distanceTo_14 ?_
  refine g_istore C0 (lv' := [(4, .int r3), (3, .int r1), (0, .ref h0), (1, .int x0), (2, .int x1)]) dX5_distanceTo_17 (by decide) rfl ?_
  refine g_aload_n C0 dX5_distanceTo_19 rfl 2 rfl ?_
  refine g_iload_n C0 dX5_distanceTo_20 rfl 1 rfl ?_
  obtain ⟨r4, er4, hf⟩ := hl_bd hf
  try dsimp only at hf
  refine g_callVi C0 (ws' := [(h0, .inr (5, [.ref h1, .ref h2, .ref h3, .ref h4, .int tcp, .int tkd, .int tsd, .int tlm, .int tfu, .int ttb, .int trb, .int tgr])), (h1, .inl (cI, 64, .inl tK)), (h2, .inl (cI, 64, .inl tV)), (h3, .inl (cI, 64, .inl tO)), (h4, .inl (cI, 64, .inl tW))]) (mX5_strideOf l D cB cC cI cO  h0 h1 h2 h3 h4 tcp tkd tsd tlm tfu ttb trb tgr tK tV tO tW r1 r4 er4) hmX5_strideOf q_266 ⟨Nat.le_of_ble_eq_true rfl, Nat.le_of_ble_eq_true rfl⟩ ⟨Nat.le_of_ble_eq_true rfl, Nat.le_of_ble_eq_true rfl⟩ rfl rfl [0, 1, 2, 3, 4] rfl rfl rfl rfl rfl 0 rfl rfl rfl (Nat.le_of_ble_eq_true rfl) dX5_distanceTo_21 ?_
  refine g_istore C0 (lv' := [(5, .int r4), (4, .int r3), (3, .int r1), (0, .ref h0), (1, .int x0), (2, .int x1)]) dX5_distanceTo_24 (by decide) rfl ?_
  refine g_iconst C0 (v := (0 : Int32)) dX5_distanceTo_26 (by decide) ?_
  refine g_istore C0 (lv' := [(6, .int (0 : Int32)), (5, .int r4), (4, .int r3), (3, .int r1), (0, .ref h0), (1, .int x0), (2, .int x1)]) dX5_distanceTo_27 (by decide) rfl ?_
  refine g_lv [4, 2, 1, 0] (lv' := [(0, .ref h0), (4, .int r3), (5, .int r4), (6, .int (0 : Int32))]) rfl ?_
  exact bX5_distanceTo_29 C0 h0 h1 h2 h3 h4 out tlm tfu ttb trb tgr tK tV tO tW  1000 tcp tkd tsd r3 r4 (0 : Int32) hf
theorem mX5_distanceTo (l : Launch) (D : va_G) (cB cC cI cO : ClassId)  (h0 h1 h2 h3 h4 : Nat) (tcp : Int32) (tkd : Int32) (tsd : Int32) (tlm : Int32) (tfu : Int32) (ttb : Int32) (trb : Int32) (tgr : Int32) (tK : Nat → Int32) (tV : Nat → Int32) (tO : Nat → Int32) (tW : Nat → Int32) (x0 : Int32) (x1 : Int32) (out : Int32) (hf : fX5_distanceTo tcp tkd tsd x0 x1 = some out) : ∀ sz, Met l yX5_distanceTo (ws_ yX5_distanceTo cX5_distanceTo 7 (some .int)) rmX5_distanceTo (va_Pc [.ref h0, .int x0, .int x1] (hPre D (hTy cB cC cI cO) [(h0, .inr (5, [.ref h1, .ref h2, .ref h3, .ref h4, .int tcp, .int tkd, .int tsd, .int tlm, .int tfu, .int ttb, .int trb, .int tgr])), (h1, .inl (cI, 64, .inl tK)), (h2, .inl (cI, 64, .inl tV)), (h3, .inl (cI, 64, .inl tO)), (h4, .inl (cI, 64, .inl tW))] sz)) (hQi D [(h0, .inr (5, [.ref h1, .ref h2, .ref h3, .ref h4, .int tcp, .int tkd, .int tsd, .int tlm, .int tfu, .int ttb, .int trb, .int tgr])), (h1, .inl (cI, 64, .inl tK)), (h2, .inl (cI, 64, .inl tV)), (h3, .inl (cI, 64, .inl tO)), (h4, .inl (cI, 64, .inl tW))] out (va_A [(h0, .inr (5, [.ref h1, .ref h2, .ref h3, .ref h4, .int tcp, .int tkd, .int tsd, .int tlm, .int tfu, .int ttb, .int trb, .int tgr])), (h1, .inl (cI, 64, .inl tK)), (h2, .inl (cI, 64, .inl tV)), (h3, .inl (cI, 64, .inl tO)), (h4, .inl (cI, 64, .inl tW))] sz)) 0 0 (va_A [(h0, .inr (5, [.ref h1, .ref h2, .ref h3, .ref h4, .int tcp, .int tkd, .int tsd, .int tlm, .int tfu, .int ttb, .int trb, .int tgr])), (h1, .inl (cI, 64, .inl tK)), (h2, .inl (cI, 64, .inl tV)), (h3, .inl (cI, 64, .inl tO)), (h4, .inl (cI, 64, .inl tW))] sz) :=
  g_met (Qf := fun A => hQi D [(h0, .inr (5, [.ref h1, .ref h2, .ref h3, .ref h4, .int tcp, .int tkd, .int tsd, .int tlm, .int tfu, .int ttb, .int trb, .int tgr])), (h1, .inl (cI, 64, .inl tK)), (h2, .inl (cI, 64, .inl tV)), (h3, .inl (cI, 64, .inl tO)), (h4, .inl (cI, 64, .inl tW))] out A) (by decide +kernel) (Nat.le_of_ble_eq_true rfl) rfl (fun C0 => bX5_distanceTo C0 h0 h1 h2 h3 h4 out tcp tkd tsd tlm tfu ttb trb tgr tK tV tO tW x0 x1 hf)
abbrev rmX5_keyAfter : Room := { frames := 3, cells := 0, slots := 0, locals := 62 }
theorem hmX5_keyAfter : hMV yX5_keyAfter cX5_keyAfter 5 (some .int) 1 := ⟨q_433, q_13, q_431, q_432, by decide, by decide, by decide +kernel⟩
theorem dX5_keyAfter_0 : decode cX5_keyAfter 0 = .ok (.iconst (-1), 1) := by decide +kernel
theorem dX5_keyAfter_1 : decode cX5_keyAfter 1 = .ok (.istore_n 2, 1) := by decide +kernel
theorem dX5_keyAfter_2 : decode cX5_keyAfter 2 = .ok (.iconst 0, 1) := by decide +kernel
theorem dX5_keyAfter_3 : decode cX5_keyAfter 3 = .ok (.istore_n 3, 1) := by decide +kernel
theorem dX5_keyAfter_4 : decode cX5_keyAfter 4 = .ok (.iload_n 3, 1) := by decide +kernel
theorem dX5_keyAfter_5 : decode cX5_keyAfter 5 = .ok (.aload_n 0, 1) := by decide +kernel
theorem dX5_keyAfter_6 : decode cX5_keyAfter 6 = .ok (.getfield 31, 3) := by decide +kernel
theorem dX5_keyAfter_9 : decode cX5_keyAfter 9 = .ok (.if_icmp .ge 44, 3) := by decide +kernel
theorem dX5_keyAfter_12 : decode cX5_keyAfter 12 = .ok (.aload_n 0, 1) := by decide +kernel
theorem dX5_keyAfter_13 : decode cX5_keyAfter 13 = .ok (.iload_n 3, 1) := by decide +kernel
theorem dX5_keyAfter_14 : decode cX5_keyAfter 14 = .ok (.invokevirtual 69, 3) := by decide +kernel
theorem dX5_keyAfter_17 : decode cX5_keyAfter 17 = .ok (.istore 4, 2) := by decide +kernel
theorem dX5_keyAfter_19 : decode cX5_keyAfter 19 = .ok (.aload_n 0, 1) := by decide +kernel
theorem dX5_keyAfter_20 : decode cX5_keyAfter 20 = .ok (.iload_n 3, 1) := by decide +kernel
theorem dX5_keyAfter_21 : decode cX5_keyAfter 21 = .ok (.invokevirtual 97, 3) := by decide +kernel
theorem dX5_keyAfter_24 : decode cX5_keyAfter 24 = .ok (.ifCond .eq 23, 3) := by decide +kernel
theorem dX5_keyAfter_27 : decode cX5_keyAfter 27 = .ok (.iload 4, 2) := by decide +kernel
theorem dX5_keyAfter_29 : decode cX5_keyAfter 29 = .ok (.iload_n 1, 1) := by decide +kernel
theorem dX5_keyAfter_30 : decode cX5_keyAfter 30 = .ok (.if_icmp .le 17, 3) := by decide +kernel
theorem dX5_keyAfter_33 : decode cX5_keyAfter 33 = .ok (.iload_n 2, 1) := by decide +kernel
theorem dX5_keyAfter_34 : decode cX5_keyAfter 34 = .ok (.iconst (-1), 1) := by decide +kernel
theorem dX5_keyAfter_35 : decode cX5_keyAfter 35 = .ok (.if_icmp .eq 9, 3) := by decide +kernel
theorem dX5_keyAfter_38 : decode cX5_keyAfter 38 = .ok (.iload 4, 2) := by decide +kernel
theorem dX5_keyAfter_40 : decode cX5_keyAfter 40 = .ok (.iload_n 2, 1) := by decide +kernel
theorem dX5_keyAfter_41 : decode cX5_keyAfter 41 = .ok (.if_icmp .ge 6, 3) := by decide +kernel
theorem dX5_keyAfter_44 : decode cX5_keyAfter 44 = .ok (.iload 4, 2) := by decide +kernel
theorem dX5_keyAfter_46 : decode cX5_keyAfter 46 = .ok (.istore_n 2, 1) := by decide +kernel
theorem dX5_keyAfter_47 : decode cX5_keyAfter 47 = .ok (.iinc 3 1, 3) := by decide +kernel
theorem dX5_keyAfter_50 : decode cX5_keyAfter 50 = .ok (.goto (-46), 3) := by decide +kernel
theorem dX5_keyAfter_53 : decode cX5_keyAfter 53 = .ok (.iload_n 2, 1) := by decide +kernel
theorem dX5_keyAfter_54 : decode cX5_keyAfter 54 = .ok (.ireturn, 1) := by decide +kernel
set_option maxHeartbeats 4000000 in
set_option maxRecDepth 100000 in
theorem bX5_keyAfter_47 {p : Program} {l : Launch} {e : Env} {s : State} {m : MethodId} {args : Array Value} {below : List Frame} {meth : Method} {c : Code} {D : va_G} {cB cC cI cO : ClassId} {A : Nat → Prop} (C0 : gC RX5 cX5_keyAfter 5 (some .int) p s m args meth c D (hTy cB cC cI cO) A) (h0 h1 h2 h3 h4 : Nat) (out : Int32) (tkd : Int32) (tsd : Int32) (tlm : Int32) (tfu : Int32) (ttb : Int32) (trb : Int32) (tgr : Int32) (tV : Nat → Int32) (tO : Nat → Int32) (tW : Nat → Int32) (rec4 : Int32 → (Nat → Int32) → Int32 → Int32 → Int32 → Option (Int32)) (hrec4 : ∀ (tcp : Int32) (tK : Nat → Int32) (v1 : Int32) (v2 : Int32) (v3 : Int32), rec4 tcp tK v1 v2 v3 = some out → gG p l e rmX5_keyAfter s m args below meth c D A 5 (MQ below (hQi D [(h0, .inr (5, [.ref h1, .ref h2, .ref h3, .ref h4, .int tcp, .int tkd, .int tsd, .int tlm, .int tfu, .int ttb, .int trb, .int tgr])), (h1, .inl (cI, 64, .inl tK)), (h2, .inl (cI, 64, .inl tV)), (h3, .inl (cI, 64, .inl tO)), (h4, .inl (cI, 64, .inl tW))] out A) args s 0 0 A) 0 0 4 [(0, .ref h0), (1, .int v1), (2, .int v2), (3, .int v3)] [] [(h0, .inr (5, [.ref h1, .ref h2, .ref h3, .ref h4, .int tcp, .int tkd, .int tsd, .int tlm, .int tfu, .int ttb, .int trb, .int tgr])), (h1, .inl (cI, 64, .inl tK)), (h2, .inl (cI, 64, .inl tV)), (h3, .inl (cI, 64, .inl tO)), (h4, .inl (cI, 64, .inl tW))]) : ∀ (tcp : Int32) (tK : Nat → Int32) (v1 : Int32) (v2 : Int32) (v3 : Int32), fX5_keyAfter_47 rec4 tcp tK v1 v2 v3 = some out → gG p l e rmX5_keyAfter s m args below meth c D A 5 (MQ below (hQi D [(h0, .inr (5, [.ref h1, .ref h2, .ref h3, .ref h4, .int tcp, .int tkd, .int tsd, .int tlm, .int tfu, .int ttb, .int trb, .int tgr])), (h1, .inl (cI, 64, .inl tK)), (h2, .inl (cI, 64, .inl tV)), (h3, .inl (cI, 64, .inl tO)), (h4, .inl (cI, 64, .inl tW))] out A) args s 0 0 A) 0 0 47 [(0, .ref h0), (1, .int v1), (2, .int v2), (3, .int v3)] [] [(h0, .inr (5, [.ref h1, .ref h2, .ref h3, .ref h4, .int tcp, .int tkd, .int tsd, .int tlm, .int tfu, .int ttb, .int trb, .int tgr])), (h1, .inl (cI, 64, .inl tK)), (h2, .inl (cI, 64, .inl tV)), (h3, .inl (cI, 64, .inl tO)), (h4, .inl (cI, 64, .inl tW))] := by
  intro tcp tK v1 v2 v3 hf
  unfold fX5_keyAfter_47 at hf
  refine g_iinc C0 (lv' := [(3, .int (v3 + (1 : Int32))), (0, .ref h0), (1, .int v1), (2, .int v2)]) dX5_keyAfter_47 3 rfl rfl (by decide) rfl ?_
  refine g_goto C0 (tgt := 4) dX5_keyAfter_50 (by decide) ?_
  refine g_lv [1, 2, 3, 0] (lv' := [(0, .ref h0), (1, .int v1), (2, .int v2), (3, .int (v3 + (1 : Int32)))]) rfl ?_
  exact hrec4 tcp tK v1 v2 (v3 + (1 : Int32)) hf
set_option maxHeartbeats 4000000 in
set_option maxRecDepth 100000 in
theorem bX5_keyAfter_4 {p : Program} {l : Launch} {e : Env} {s : State} {m : MethodId} {args : Array Value} {below : List Frame} {meth : Method} {c : Code} {D : va_G} {cB cC cI cO : ClassId} {A : Nat → Prop} (C0 : gC RX5 cX5_keyAfter 5 (some .int) p s m args meth c D (hTy cB cC cI cO) A) (h0 h1 h2 h3 h4 : Nat) (out : Int32) (tkd : Int32) (tsd : Int32) (tlm : Int32) (tfu : Int32) (ttb : Int32) (trb : Int32) (tgr : Int32) (tV : Nat → Int32) (tO : Nat → Int32) (tW : Nat → Int32)   : ∀ (n : Nat) (tcp : Int32) (tK : Nat → Int32) (v1 : Int32) (v2 : Int32) (v3 : Int32), fX5_keyAfter_4 n tcp tK v1 v2 v3 = some out → gG p l e rmX5_keyAfter s m args below meth c D A 5 (MQ below (hQi D [(h0, .inr (5, [.ref h1, .ref h2, .ref h3, .ref h4, .int tcp, .int tkd, .int tsd, .int tlm, .int tfu, .int ttb, .int trb, .int tgr])), (h1, .inl (cI, 64, .inl tK)), (h2, .inl (cI, 64, .inl tV)), (h3, .inl (cI, 64, .inl tO)), (h4, .inl (cI, 64, .inl tW))] out A) args s 0 0 A) 0 0 4 [(0, .ref h0), (1, .int v1), (2, .int v2), (3, .int v3)] [] [(h0, .inr (5, [.ref h1, .ref h2, .ref h3, .ref h4, .int tcp, .int tkd, .int tsd, .int tlm, .int tfu, .int ttb, .int trb, .int tgr])), (h1, .inl (cI, 64, .inl tK)), (h2, .inl (cI, 64, .inl tV)), (h3, .inl (cI, 64, .inl tO)), (h4, .inl (cI, 64, .inl tW))] := by
  intro n
  induction n with
  | zero => intro tcp tK v1 v2 v3 hf; rw [fX5_keyAfter_4] at hf; cases hf
  | succ n ih =>
    intro tcp tK v1 v2 v3 hf
    rw [fX5_keyAfter_4] at hf
    refine g_iload_n C0 dX5_keyAfter_4 rfl 3 rfl ?_
    refine g_aload_n C0 dX5_keyAfter_5 rfl 0 rfl ?_
    refine g_get C0 hinX5 0 rfl rfl 4 (by decide) q_64 rfl dX5_keyAfter_6 ?_
    refine g_icmp_ge C0 (tgt := 53) dX5_keyAfter_9 (by decide) (fun c1 => ?_) (fun c1 => ?_)
    · rw [if_pos c1] at hf
      refine g_iload_n C0 dX5_keyAfter_53 rfl 2 rfl ?_
      cases hf
      exact g_iret C0 rfl dX5_keyAfter_54 rfl rfl
    · rw [if_neg c1] at hf
      refine g_aload_n C0 dX5_keyAfter_12 rfl 0 rfl ?_
      refine g_iload_n C0 dX5_keyAfter_13 rfl 3 rfl ?_
      obtain ⟨r2, er2, hf⟩ := hl_bd hf
      try dsimp only at hf
      refine g_callVi C0 (ws' := [(h0, .inr (5, [.ref h1, .ref h2, .ref h3, .ref h4, .int tcp, .int tkd, .int tsd, .int tlm, .int tfu, .int ttb, .int trb, .int tgr])), (h1, .inl (cI, 64, .inl tK)), (h2, .inl (cI, 64, .inl tV)), (h3, .inl (cI, 64, .inl tO)), (h4, .inl (cI, 64, .inl tW))]) (mX5_content l D cB cC cI cO  h0 h1 h2 h3 h4 tcp tkd tsd tlm tfu ttb trb tgr tK tV tO tW v3 r2 er2) hmX5_content q_274 ⟨Nat.le_of_ble_eq_true rfl, Nat.le_of_ble_eq_true rfl⟩ ⟨Nat.le_of_ble_eq_true rfl, Nat.le_of_ble_eq_true rfl⟩ rfl rfl [0, 1, 2, 3, 4] rfl rfl rfl rfl rfl 0 rfl rfl rfl (Nat.le_of_ble_eq_true rfl) dX5_keyAfter_14 ?_
      refine g_istore C0 (lv' := [(4, .int r2), (0, .ref h0), (1, .int v1), (2, .int v2), (3, .int v3)]) dX5_keyAfter_17 (by decide) rfl ?_
      refine g_aload_n C0 dX5_keyAfter_19 rfl 1 rfl ?_
      refine g_iload_n C0 dX5_keyAfter_20 rfl 4 rfl ?_
      obtain ⟨r3, er3, hf⟩ := hl_bd hf
      try dsimp only at hf
      refine g_callVi C0 (ws' := [(h0, .inr (5, [.ref h1, .ref h2, .ref h3, .ref h4, .int tcp, .int tkd, .int tsd, .int tlm, .int tfu, .int ttb, .int trb, .int tgr])), (h1, .inl (cI, 64, .inl tK)), (h2, .inl (cI, 64, .inl tV)), (h3, .inl (cI, 64, .inl tO)), (h4, .inl (cI, 64, .inl tW))]) (mX5_isFullSlot l D cB cC cI cO  h0 h1 h2 h3 h4 tcp tkd tsd tlm tfu ttb trb tgr tK tV tO tW v3 r3 er3) hmX5_isFullSlot q_434 ⟨Nat.le_of_ble_eq_true rfl, Nat.le_of_ble_eq_true rfl⟩ ⟨Nat.le_of_ble_eq_true rfl, Nat.le_of_ble_eq_true rfl⟩ rfl rfl [0, 1, 2, 3, 4] rfl rfl rfl rfl rfl 0 rfl rfl rfl (Nat.le_of_ble_eq_true rfl) dX5_keyAfter_21 ?_
      refine g_if_eq C0 (tgt := 47) dX5_keyAfter_24 (by decide) (fun c4 => ?_) (fun c4 => ?_)
      · rw [if_pos c4] at hf
        refine g_lv [1, 2, 3, 4] (lv' := [(0, .ref h0), (1, .int v1), (2, .int v2), (3, .int v3)]) rfl ?_
        exact bX5_keyAfter_47 C0 h0 h1 h2 h3 h4 out tkd tsd tlm tfu ttb trb tgr tV tO tW (fX5_keyAfter_4 n) ih  tcp tK v1 v2 v3 hf
      · rw [if_neg c4] at hf
        refine g_iload C0 dX5_keyAfter_27 0 rfl ?_
        refine g_iload_n C0 dX5_keyAfter_29 rfl 2 rfl ?_
        refine g_icmp_le C0 (tgt := 47) dX5_keyAfter_30 (by decide) (fun c5 => ?_) (fun c5 => ?_)
        · rw [if_pos c5] at hf
          refine g_lv [1, 2, 3, 4] (lv' := [(0, .ref h0), (1, .int v1), (2, .int v2), (3, .int v3)]) rfl ?_
          exact bX5_keyAfter_47 C0 h0 h1 h2 h3 h4 out tkd tsd tlm tfu ttb trb tgr tV tO tW (fX5_keyAfter_4 n) ih  tcp tK v1 v2 v3 hf
        · rw [if_neg c5] at hf
          refine g_iload_n C0 dX5_keyAfter_33 rfl 3 rfl ?_
          refine g_iconst C0 (v := (-1 : Int32)) dX5_keyAfter_34 (by decide) ?_
          refine g_icmp_eq C0 (tgt := 44) dX5_keyAfter_35 (by decide) (fun c6 => ?_) (fun c6 => ?_)
          · rw [if_pos c6] at hf
            refine g_iload C0 dX5_keyAfter_44 0 rfl ?_
            refine g_istore_n C0 (lv' := [(2, .int r2), (4, .int r2), (0, .ref h0), (1, .int v1), (3, .int v3)]) dX5_keyAfter_46 rfl (by decide) rfl ?_
            refine g_lv [2, 3, 0, 4] (lv' := [(0, .ref h0), (1, .int v1), (2, .int r2), (3, .int v3)]) rfl ?_
            exact bX5_keyAfter_47 C0 h0 h1 h2 h3 h4 out tkd tsd tlm tfu ttb trb tgr tV tO tW (fX5_keyAfter_4 n) ih  tcp tK v1 r2 v3 hf
          · rw [if_neg c6] at hf
            refine g_iload C0 dX5_keyAfter_38 0 rfl ?_
            refine g_iload_n C0 dX5_keyAfter_40 rfl 3 rfl ?_
            refine g_icmp_ge C0 (tgt := 47) dX5_keyAfter_41 (by decide) (fun c7 => ?_) (fun c7 => ?_)
            · rw [if_pos c7] at hf
              refine g_lv [1, 2, 3, 4] (lv' := [(0, .ref h0), (1, .int v1), (2, .int v2), (3, .int v3)]) rfl ?_
              exact bX5_keyAfter_47 C0 h0 h1 h2 h3 h4 out tkd tsd tlm tfu ttb trb tgr tV tO tW (fX5_keyAfter_4 n) ih  tcp tK v1 v2 v3 hf
            · rw [if_neg c7] at hf
              refine g_iload C0 dX5_keyAfter_44 0 rfl ?_
              refine g_istore_n C0 (lv' := [(2, .int r2), (4, .int r2), (0, .ref h0), (1, .int v1), (3, .int v3)]) dX5_keyAfter_46 rfl (by decide) rfl ?_
              refine g_lv [2, 3, 0, 4] (lv' := [(0, .ref h0), (1, .int v1), (2, .int r2), (3, .int v3)]) rfl ?_
              exact bX5_keyAfter_47 C0 h0 h1 h2 h3 h4 out tkd tsd tlm tfu ttb trb tgr tV tO tW (fX5_keyAfter_4 n) ih  tcp tK v1 r2 v3 hf
set_option maxHeartbeats 4000000 in
set_option maxRecDepth 100000 in
theorem bX5_keyAfter {p : Program} {l : Launch} {e : Env} {s : State} {m : MethodId} {args : Array Value} {below : List Frame} {meth : Method} {c : Code} {D : va_G} {cB cC cI cO : ClassId} {A : Nat → Prop} (C0 : gC RX5 cX5_keyAfter 5 (some .int) p s m args meth c D (hTy cB cC cI cO) A) (h0 h1 h2 h3 h4 : Nat) (out : Int32) (tcp : Int32) (tkd : Int32) (tsd : Int32) (tlm : Int32) (tfu : Int32) (ttb : Int32) (trb : Int32) (tgr : Int32) (tK : Nat → Int32) (tV : Nat → Int32) (tO : Nat → Int32) (tW : Nat → Int32) (x0 : Int32) (hf : fX5_keyAfter tcp tK x0 = some out) : gG p l e rmX5_keyAfter s m args below meth c D A 5 (MQ below (hQi D [(h0, .inr (5, [.ref h1, .ref h2, .ref h3, .ref h4, .int tcp, .int tkd, .int tsd, .int tlm, .int tfu, .int ttb, .int trb, .int tgr])), (h1, .inl (cI, 64, .inl tK)), (h2, .inl (cI, 64, .inl tV)), (h3, .inl (cI, 64, .inl tO)), (h4, .inl (cI, 64, .inl tW))] out A) args s 0 0 A) 0 0 0 [(0, .ref h0), (1, .int x0)] [] [(h0, .inr (5, [.ref h1, .ref h2, .ref h3, .ref h4, .int tcp, .int tkd, .int tsd, .int tlm, .int tfu, .int ttb, .int trb, .int tgr])), (h1, .inl (cI, 64, .inl tK)), (h2, .inl (cI, 64, .inl tV)), (h3, .inl (cI, 64, .inl tO)), (h4, .inl (cI, 64, .inl tW))] := by
  unfold fX5_keyAfter at hf
  refine g_iconst C0 (v := (-1 : Int32)) dX5_keyAfter_0 (by decide) ?_
  refine g_istore_n C0 (lv' := [(2, .int (-1 : Int32)), (0, .ref h0), (1, .int x0)]) dX5_keyAfter_1 rfl (by decide) rfl ?_
  refine g_iconst C0 (v := (0 : Int32)) dX5_keyAfter_2 (by decide) ?_
  refine g_istore_n C0 (lv' := [(3, .int (0 : Int32)), (2, .int (-1 : Int32)), (0, .ref h0), (1, .int x0)]) dX5_keyAfter_3 rfl (by decide) rfl ?_
  refine g_lv [2, 3, 1, 0] (lv' := [(0, .ref h0), (1, .int x0), (2, .int (-1 : Int32)), (3, .int (0 : Int32))]) rfl ?_
  exact bX5_keyAfter_4 C0 h0 h1 h2 h3 h4 out tkd tsd tlm tfu ttb trb tgr tV tO tW  1000 tcp tK x0 (-1 : Int32) (0 : Int32) hf
theorem mX5_keyAfter (l : Launch) (D : va_G) (cB cC cI cO : ClassId)  (h0 h1 h2 h3 h4 : Nat) (tcp : Int32) (tkd : Int32) (tsd : Int32) (tlm : Int32) (tfu : Int32) (ttb : Int32) (trb : Int32) (tgr : Int32) (tK : Nat → Int32) (tV : Nat → Int32) (tO : Nat → Int32) (tW : Nat → Int32) (x0 : Int32) (out : Int32) (hf : fX5_keyAfter tcp tK x0 = some out) : ∀ sz, Met l yX5_keyAfter (ws_ yX5_keyAfter cX5_keyAfter 5 (some .int)) rmX5_keyAfter (va_Pc [.ref h0, .int x0] (hPre D (hTy cB cC cI cO) [(h0, .inr (5, [.ref h1, .ref h2, .ref h3, .ref h4, .int tcp, .int tkd, .int tsd, .int tlm, .int tfu, .int ttb, .int trb, .int tgr])), (h1, .inl (cI, 64, .inl tK)), (h2, .inl (cI, 64, .inl tV)), (h3, .inl (cI, 64, .inl tO)), (h4, .inl (cI, 64, .inl tW))] sz)) (hQi D [(h0, .inr (5, [.ref h1, .ref h2, .ref h3, .ref h4, .int tcp, .int tkd, .int tsd, .int tlm, .int tfu, .int ttb, .int trb, .int tgr])), (h1, .inl (cI, 64, .inl tK)), (h2, .inl (cI, 64, .inl tV)), (h3, .inl (cI, 64, .inl tO)), (h4, .inl (cI, 64, .inl tW))] out (va_A [(h0, .inr (5, [.ref h1, .ref h2, .ref h3, .ref h4, .int tcp, .int tkd, .int tsd, .int tlm, .int tfu, .int ttb, .int trb, .int tgr])), (h1, .inl (cI, 64, .inl tK)), (h2, .inl (cI, 64, .inl tV)), (h3, .inl (cI, 64, .inl tO)), (h4, .inl (cI, 64, .inl tW))] sz)) 0 0 (va_A [(h0, .inr (5, [.ref h1, .ref h2, .ref h3, .ref h4, .int tcp, .int tkd, .int tsd, .int tlm, .int tfu, .int ttb, .int trb, .int tgr])), (h1, .inl (cI, 64, .inl tK)), (h2, .inl (cI, 64, .inl tV)), (h3, .inl (cI, 64, .inl tO)), (h4, .inl (cI, 64, .inl tW))] sz) :=
  g_met (Qf := fun A => hQi D [(h0, .inr (5, [.ref h1, .ref h2, .ref h3, .ref h4, .int tcp, .int tkd, .int tsd, .int tlm, .int tfu, .int ttb, .int trb, .int tgr])), (h1, .inl (cI, 64, .inl tK)), (h2, .inl (cI, 64, .inl tV)), (h3, .inl (cI, 64, .inl tO)), (h4, .inl (cI, 64, .inl tW))] out A) (by decide +kernel) (Nat.le_of_ble_eq_true rfl) rfl (fun C0 => bX5_keyAfter C0 h0 h1 h2 h3 h4 out tcp tkd tsd tlm tfu ttb trb tgr tK tV tO tW x0 hf)
abbrev rmX5_exceedsLimit : Room := { frames := 0, cells := 0, slots := 0, locals := 0 }
theorem hmX5_exceedsLimit : hMV yX5_exceedsLimit cX5_exceedsLimit 3 (some .boolean) 2 := ⟨q_236, q_13, q_235, q_0, by decide, by decide, by decide +kernel⟩
theorem dX5_exceedsLimit_0 : decode cX5_exceedsLimit 0 = .ok (.bipush 100, 2) := by decide +kernel
theorem dX5_exceedsLimit_2 : decode cX5_exceedsLimit 2 = .ok (.iload_n 1, 1) := by decide +kernel
theorem dX5_exceedsLimit_3 : decode cX5_exceedsLimit 3 = .ok (.imul, 1) := by decide +kernel
theorem dX5_exceedsLimit_4 : decode cX5_exceedsLimit 4 = .ok (.aload_n 0, 1) := by decide +kernel
theorem dX5_exceedsLimit_5 : decode cX5_exceedsLimit 5 = .ok (.getfield 28, 3) := by decide +kernel
theorem dX5_exceedsLimit_8 : decode cX5_exceedsLimit 8 = .ok (.iload_n 2, 1) := by decide +kernel
theorem dX5_exceedsLimit_9 : decode cX5_exceedsLimit 9 = .ok (.imul, 1) := by decide +kernel
theorem dX5_exceedsLimit_10 : decode cX5_exceedsLimit 10 = .ok (.if_icmp .le 7, 3) := by decide +kernel
theorem dX5_exceedsLimit_13 : decode cX5_exceedsLimit 13 = .ok (.iconst 1, 1) := by decide +kernel
theorem dX5_exceedsLimit_14 : decode cX5_exceedsLimit 14 = .ok (.goto 4, 3) := by decide +kernel
theorem dX5_exceedsLimit_17 : decode cX5_exceedsLimit 17 = .ok (.iconst 0, 1) := by decide +kernel
theorem dX5_exceedsLimit_18 : decode cX5_exceedsLimit 18 = .ok (.ireturn, 1) := by decide +kernel
set_option maxHeartbeats 4000000 in
set_option maxRecDepth 100000 in
theorem bX5_exceedsLimit {p : Program} {l : Launch} {e : Env} {s : State} {m : MethodId} {args : Array Value} {below : List Frame} {meth : Method} {c : Code} {D : va_G} {cB cC cI cO : ClassId} {A : Nat → Prop} (C0 : gC RX5 cX5_exceedsLimit 3 (some .boolean) p s m args meth c D (hTy cB cC cI cO) A) (h0 h1 h2 h3 h4 : Nat) (out : Int32) (tcp : Int32) (tkd : Int32) (tsd : Int32) (tlm : Int32) (tfu : Int32) (ttb : Int32) (trb : Int32) (tgr : Int32) (tK : Nat → Int32) (tV : Nat → Int32) (tO : Nat → Int32) (tW : Nat → Int32) (x0 : Int32) (x1 : Int32) (hf : fX5_exceedsLimit tlm x0 x1 = some out) : gG p l e rmX5_exceedsLimit s m args below meth c D A 3 (MQ below (hQi D [(h0, .inr (5, [.ref h1, .ref h2, .ref h3, .ref h4, .int tcp, .int tkd, .int tsd, .int tlm, .int tfu, .int ttb, .int trb, .int tgr])), (h1, .inl (cI, 64, .inl tK)), (h2, .inl (cI, 64, .inl tV)), (h3, .inl (cI, 64, .inl tO)), (h4, .inl (cI, 64, .inl tW))] out A) args s 0 0 A) 0 0 0 [(0, .ref h0), (1, .int x0), (2, .int x1)] [] [(h0, .inr (5, [.ref h1, .ref h2, .ref h3, .ref h4, .int tcp, .int tkd, .int tsd, .int tlm, .int tfu, .int ttb, .int trb, .int tgr])), (h1, .inl (cI, 64, .inl tK)), (h2, .inl (cI, 64, .inl tV)), (h3, .inl (cI, 64, .inl tO)), (h4, .inl (cI, 64, .inl tW))] := by
  unfold fX5_exceedsLimit at hf
  refine g_bipush C0 (v := (100 : Int32)) dX5_exceedsLimit_0 (by decide) ?_
  refine g_iload_n C0 dX5_exceedsLimit_2 rfl 1 rfl ?_
  refine g_imul C0 dX5_exceedsLimit_3 ?_
  refine g_aload_n C0 dX5_exceedsLimit_4 rfl 0 rfl ?_
  refine g_get C0 hinX5 0 rfl rfl 7 (by decide) q_71 rfl dX5_exceedsLimit_5 ?_
  refine g_iload_n C0 dX5_exceedsLimit_8 rfl 2 rfl ?_
  refine g_imul C0 dX5_exceedsLimit_9 ?_
  refine g_icmp_le C0 (tgt := 17) dX5_exceedsLimit_10 (by decide) (fun c1 => ?_) (fun c1 => ?_)
  · rw [if_pos c1] at hf
    refine g_iconst C0 (v := (0 : Int32)) dX5_exceedsLimit_17 (by decide) ?_
    cases hf
    exact g_iret C0 rfl dX5_exceedsLimit_18 rfl rfl
  · rw [if_neg c1] at hf
    refine g_iconst C0 (v := (1 : Int32)) dX5_exceedsLimit_13 (by decide) ?_
    refine g_goto C0 (tgt := 18) dX5_exceedsLimit_14 (by decide) ?_
    cases hf
    exact g_iret C0 rfl dX5_exceedsLimit_18 rfl rfl
theorem mX5_exceedsLimit (l : Launch) (D : va_G) (cB cC cI cO : ClassId)  (h0 h1 h2 h3 h4 : Nat) (tcp : Int32) (tkd : Int32) (tsd : Int32) (tlm : Int32) (tfu : Int32) (ttb : Int32) (trb : Int32) (tgr : Int32) (tK : Nat → Int32) (tV : Nat → Int32) (tO : Nat → Int32) (tW : Nat → Int32) (x0 : Int32) (x1 : Int32) (out : Int32) (hf : fX5_exceedsLimit tlm x0 x1 = some out) : ∀ sz, Met l yX5_exceedsLimit (ws_ yX5_exceedsLimit cX5_exceedsLimit 3 (some .boolean)) rmX5_exceedsLimit (va_Pc [.ref h0, .int x0, .int x1] (hPre D (hTy cB cC cI cO) [(h0, .inr (5, [.ref h1, .ref h2, .ref h3, .ref h4, .int tcp, .int tkd, .int tsd, .int tlm, .int tfu, .int ttb, .int trb, .int tgr])), (h1, .inl (cI, 64, .inl tK)), (h2, .inl (cI, 64, .inl tV)), (h3, .inl (cI, 64, .inl tO)), (h4, .inl (cI, 64, .inl tW))] sz)) (hQi D [(h0, .inr (5, [.ref h1, .ref h2, .ref h3, .ref h4, .int tcp, .int tkd, .int tsd, .int tlm, .int tfu, .int ttb, .int trb, .int tgr])), (h1, .inl (cI, 64, .inl tK)), (h2, .inl (cI, 64, .inl tV)), (h3, .inl (cI, 64, .inl tO)), (h4, .inl (cI, 64, .inl tW))] out (va_A [(h0, .inr (5, [.ref h1, .ref h2, .ref h3, .ref h4, .int tcp, .int tkd, .int tsd, .int tlm, .int tfu, .int ttb, .int trb, .int tgr])), (h1, .inl (cI, 64, .inl tK)), (h2, .inl (cI, 64, .inl tV)), (h3, .inl (cI, 64, .inl tO)), (h4, .inl (cI, 64, .inl tW))] sz)) 0 0 (va_A [(h0, .inr (5, [.ref h1, .ref h2, .ref h3, .ref h4, .int tcp, .int tkd, .int tsd, .int tlm, .int tfu, .int ttb, .int trb, .int tgr])), (h1, .inl (cI, 64, .inl tK)), (h2, .inl (cI, 64, .inl tV)), (h3, .inl (cI, 64, .inl tO)), (h4, .inl (cI, 64, .inl tW))] sz) :=
  g_met (Qf := fun A => hQi D [(h0, .inr (5, [.ref h1, .ref h2, .ref h3, .ref h4, .int tcp, .int tkd, .int tsd, .int tlm, .int tfu, .int ttb, .int trb, .int tgr])), (h1, .inl (cI, 64, .inl tK)), (h2, .inl (cI, 64, .inl tV)), (h3, .inl (cI, 64, .inl tO)), (h4, .inl (cI, 64, .inl tW))] out A) (by decide +kernel) (Nat.le_of_ble_eq_true rfl) rfl (fun C0 => bX5_exceedsLimit C0 h0 h1 h2 h3 h4 out tcp tkd tsd tlm tfu ttb trb tgr tK tV tO tW x0 x1 hf)
abbrev rmX5_needsRebuild : Room := { frames := 1, cells := 0, slots := 0, locals := 22 }
theorem hmX5_needsRebuild : hMV yX5_needsRebuild cX5_needsRebuild 1 (some .boolean) 0 := ⟨q_232, q_13, q_230, q_231, by decide, by decide, by decide +kernel⟩
theorem dX5_needsRebuild_0 : decode cX5_needsRebuild 0 = .ok (.aload_n 0, 1) := by decide +kernel
theorem dX5_needsRebuild_1 : decode cX5_needsRebuild 1 = .ok (.aload_n 0, 1) := by decide +kernel
theorem dX5_needsRebuild_2 : decode cX5_needsRebuild 2 = .ok (.getfield 49, 3) := by decide +kernel
theorem dX5_needsRebuild_5 : decode cX5_needsRebuild 5 = .ok (.aload_n 0, 1) := by decide +kernel
theorem dX5_needsRebuild_6 : decode cX5_needsRebuild 6 = .ok (.getfield 52, 3) := by decide +kernel
theorem dX5_needsRebuild_9 : decode cX5_needsRebuild 9 = .ok (.iadd, 1) := by decide +kernel
theorem dX5_needsRebuild_10 : decode cX5_needsRebuild 10 = .ok (.iconst 1, 1) := by decide +kernel
theorem dX5_needsRebuild_11 : decode cX5_needsRebuild 11 = .ok (.iadd, 1) := by decide +kernel
theorem dX5_needsRebuild_12 : decode cX5_needsRebuild 12 = .ok (.aload_n 0, 1) := by decide +kernel
theorem dX5_needsRebuild_13 : decode cX5_needsRebuild 13 = .ok (.getfield 31, 3) := by decide +kernel
theorem dX5_needsRebuild_16 : decode cX5_needsRebuild 16 = .ok (.invokevirtual 100, 3) := by decide +kernel
theorem dX5_needsRebuild_19 : decode cX5_needsRebuild 19 = .ok (.ireturn, 1) := by decide +kernel
set_option maxHeartbeats 4000000 in
set_option maxRecDepth 100000 in
theorem bX5_needsRebuild {p : Program} {l : Launch} {e : Env} {s : State} {m : MethodId} {args : Array Value} {below : List Frame} {meth : Method} {c : Code} {D : va_G} {cB cC cI cO : ClassId} {A : Nat → Prop} (C0 : gC RX5 cX5_needsRebuild 1 (some .boolean) p s m args meth c D (hTy cB cC cI cO) A) (h0 h1 h2 h3 h4 : Nat) (out : Int32) (tcp : Int32) (tkd : Int32) (tsd : Int32) (tlm : Int32) (tfu : Int32) (ttb : Int32) (trb : Int32) (tgr : Int32) (tK : Nat → Int32) (tV : Nat → Int32) (tO : Nat → Int32) (tW : Nat → Int32)  (hf : fX5_needsRebuild tcp tlm tfu ttb = some out) : gG p l e rmX5_needsRebuild s m args below meth c D A 1 (MQ below (hQi D [(h0, .inr (5, [.ref h1, .ref h2, .ref h3, .ref h4, .int tcp, .int tkd, .int tsd, .int tlm, .int tfu, .int ttb, .int trb, .int tgr])), (h1, .inl (cI, 64, .inl tK)), (h2, .inl (cI, 64, .inl tV)), (h3, .inl (cI, 64, .inl tO)), (h4, .inl (cI, 64, .inl tW))] out A) args s 0 0 A) 0 0 0 [(0, .ref h0)] [] [(h0, .inr (5, [.ref h1, .ref h2, .ref h3, .ref h4, .int tcp, .int tkd, .int tsd, .int tlm, .int tfu, .int ttb, .int trb, .int tgr])), (h1, .inl (cI, 64, .inl tK)), (h2, .inl (cI, 64, .inl tV)), (h3, .inl (cI, 64, .inl tO)), (h4, .inl (cI, 64, .inl tW))] := by
  unfold fX5_needsRebuild at hf
  refine g_aload_n C0 dX5_needsRebuild_0 rfl 0 rfl ?_
  refine g_aload_n C0 dX5_needsRebuild_1 rfl 0 rfl ?_
  refine g_get C0 hinX5 0 rfl rfl 8 (by decide) q_73 rfl dX5_needsRebuild_2 ?_
  refine g_aload_n C0 dX5_needsRebuild_5 rfl 0 rfl ?_
  refine g_get C0 hinX5 0 rfl rfl 9 (by decide) q_75 rfl dX5_needsRebuild_6 ?_
  refine g_iadd C0 dX5_needsRebuild_9 ?_
  refine g_iconst C0 (v := (1 : Int32)) dX5_needsRebuild_10 (by decide) ?_
  refine g_iadd C0 dX5_needsRebuild_11 ?_
  refine g_aload_n C0 dX5_needsRebuild_12 rfl 0 rfl ?_
  refine g_get C0 hinX5 0 rfl rfl 4 (by decide) q_64 rfl dX5_needsRebuild_13 ?_
  obtain ⟨r1, er1, hf⟩ := hl_bd hf
  try dsimp only at hf
  refine g_callVi C0 (ws' := [(h0, .inr (5, [.ref h1, .ref h2, .ref h3, .ref h4, .int tcp, .int tkd, .int tsd, .int tlm, .int tfu, .int ttb, .int trb, .int tgr])), (h1, .inl (cI, 64, .inl tK)), (h2, .inl (cI, 64, .inl tV)), (h3, .inl (cI, 64, .inl tO)), (h4, .inl (cI, 64, .inl tW))]) (mX5_exceedsLimit l D cB cC cI cO  h0 h1 h2 h3 h4 tcp tkd tsd tlm tfu ttb trb tgr tK tV tO tW ((tfu + ttb) + (1 : Int32)) tcp r1 er1) hmX5_exceedsLimit q_233 ⟨Nat.le_of_ble_eq_true rfl, Nat.le_of_ble_eq_true rfl⟩ ⟨Nat.le_of_ble_eq_true rfl, Nat.le_of_ble_eq_true rfl⟩ rfl rfl [0, 1, 2, 3, 4] rfl rfl rfl rfl rfl 0 rfl rfl rfl (Nat.le_of_ble_eq_true rfl) dX5_needsRebuild_16 ?_
  obtain ⟨n2, hf⟩ := hl_ifS hf
  cases hf
  exact g_iret C0 (of_decide_eq_true n2) dX5_needsRebuild_19 rfl rfl
theorem mX5_needsRebuild (l : Launch) (D : va_G) (cB cC cI cO : ClassId)  (h0 h1 h2 h3 h4 : Nat) (tcp : Int32) (tkd : Int32) (tsd : Int32) (tlm : Int32) (tfu : Int32) (ttb : Int32) (trb : Int32) (tgr : Int32) (tK : Nat → Int32) (tV : Nat → Int32) (tO : Nat → Int32) (tW : Nat → Int32)  (out : Int32) (hf : fX5_needsRebuild tcp tlm tfu ttb = some out) : ∀ sz, Met l yX5_needsRebuild (ws_ yX5_needsRebuild cX5_needsRebuild 1 (some .boolean)) rmX5_needsRebuild (va_Pc [.ref h0] (hPre D (hTy cB cC cI cO) [(h0, .inr (5, [.ref h1, .ref h2, .ref h3, .ref h4, .int tcp, .int tkd, .int tsd, .int tlm, .int tfu, .int ttb, .int trb, .int tgr])), (h1, .inl (cI, 64, .inl tK)), (h2, .inl (cI, 64, .inl tV)), (h3, .inl (cI, 64, .inl tO)), (h4, .inl (cI, 64, .inl tW))] sz)) (hQi D [(h0, .inr (5, [.ref h1, .ref h2, .ref h3, .ref h4, .int tcp, .int tkd, .int tsd, .int tlm, .int tfu, .int ttb, .int trb, .int tgr])), (h1, .inl (cI, 64, .inl tK)), (h2, .inl (cI, 64, .inl tV)), (h3, .inl (cI, 64, .inl tO)), (h4, .inl (cI, 64, .inl tW))] out (va_A [(h0, .inr (5, [.ref h1, .ref h2, .ref h3, .ref h4, .int tcp, .int tkd, .int tsd, .int tlm, .int tfu, .int ttb, .int trb, .int tgr])), (h1, .inl (cI, 64, .inl tK)), (h2, .inl (cI, 64, .inl tV)), (h3, .inl (cI, 64, .inl tO)), (h4, .inl (cI, 64, .inl tW))] sz)) 0 0 (va_A [(h0, .inr (5, [.ref h1, .ref h2, .ref h3, .ref h4, .int tcp, .int tkd, .int tsd, .int tlm, .int tfu, .int ttb, .int trb, .int tgr])), (h1, .inl (cI, 64, .inl tK)), (h2, .inl (cI, 64, .inl tV)), (h3, .inl (cI, 64, .inl tO)), (h4, .inl (cI, 64, .inl tW))] sz) :=
  g_met (Qf := fun A => hQi D [(h0, .inr (5, [.ref h1, .ref h2, .ref h3, .ref h4, .int tcp, .int tkd, .int tsd, .int tlm, .int tfu, .int ttb, .int trb, .int tgr])), (h1, .inl (cI, 64, .inl tK)), (h2, .inl (cI, 64, .inl tV)), (h3, .inl (cI, 64, .inl tO)), (h4, .inl (cI, 64, .inl tW))] out A) (by decide +kernel) (Nat.le_of_ble_eq_true rfl) rfl (fun C0 => bX5_needsRebuild C0 h0 h1 h2 h3 h4 out tcp tkd tsd tlm tfu ttb trb tgr tK tV tO tW  hf)
abbrev rmX5_nextCapacity : Room := { frames := 1, cells := 0, slots := 0, locals := 40 }
theorem hmX5_nextCapacity : hMV yX5_nextCapacity cX5_nextCapacity 1 (some .int) 0 := ⟨q_581, q_13, q_580, q_5, by decide, by decide, by decide +kernel⟩
theorem dX5_nextCapacity_0 : decode cX5_nextCapacity 0 = .ok (.aload_n 0, 1) := by decide +kernel
theorem dX5_nextCapacity_1 : decode cX5_nextCapacity 1 = .ok (.iconst 2, 1) := by decide +kernel
theorem dX5_nextCapacity_2 : decode cX5_nextCapacity 2 = .ok (.aload_n 0, 1) := by decide +kernel
theorem dX5_nextCapacity_3 : decode cX5_nextCapacity 3 = .ok (.getfield 49, 3) := by decide +kernel
theorem dX5_nextCapacity_6 : decode cX5_nextCapacity 6 = .ok (.iconst 1, 1) := by decide +kernel
theorem dX5_nextCapacity_7 : decode cX5_nextCapacity 7 = .ok (.iadd, 1) := by decide +kernel
theorem dX5_nextCapacity_8 : decode cX5_nextCapacity 8 = .ok (.imul, 1) := by decide +kernel
theorem dX5_nextCapacity_9 : decode cX5_nextCapacity 9 = .ok (.aload_n 0, 1) := by decide +kernel
theorem dX5_nextCapacity_10 : decode cX5_nextCapacity 10 = .ok (.getfield 31, 3) := by decide +kernel
theorem dX5_nextCapacity_13 : decode cX5_nextCapacity 13 = .ok (.invokevirtual 100, 3) := by decide +kernel
theorem dX5_nextCapacity_16 : decode cX5_nextCapacity 16 = .ok (.ifCond .ne 8, 3) := by decide +kernel
theorem dX5_nextCapacity_19 : decode cX5_nextCapacity 19 = .ok (.aload_n 0, 1) := by decide +kernel
theorem dX5_nextCapacity_20 : decode cX5_nextCapacity 20 = .ok (.getfield 31, 3) := by decide +kernel
theorem dX5_nextCapacity_23 : decode cX5_nextCapacity 23 = .ok (.ireturn, 1) := by decide +kernel
theorem dX5_nextCapacity_24 : decode cX5_nextCapacity 24 = .ok (.iconst 2, 1) := by decide +kernel
theorem dX5_nextCapacity_25 : decode cX5_nextCapacity 25 = .ok (.aload_n 0, 1) := by decide +kernel
theorem dX5_nextCapacity_26 : decode cX5_nextCapacity 26 = .ok (.getfield 31, 3) := by decide +kernel
theorem dX5_nextCapacity_29 : decode cX5_nextCapacity 29 = .ok (.imul, 1) := by decide +kernel
theorem dX5_nextCapacity_30 : decode cX5_nextCapacity 30 = .ok (.bipush 64, 2) := by decide +kernel
theorem dX5_nextCapacity_32 : decode cX5_nextCapacity 32 = .ok (.invokestatic 131, 3) := by decide +kernel
theorem dX5_nextCapacity_35 : decode cX5_nextCapacity 35 = .ok (.ireturn, 1) := by decide +kernel
set_option maxHeartbeats 4000000 in
set_option maxRecDepth 100000 in
theorem bX5_nextCapacity {p : Program} {l : Launch} {e : Env} {s : State} {m : MethodId} {args : Array Value} {below : List Frame} {meth : Method} {c : Code} {D : va_G} {cB cC cI cO : ClassId} {A : Nat → Prop} (C0 : gC RX5 cX5_nextCapacity 1 (some .int) p s m args meth c D (hTy cB cC cI cO) A) (h0 h1 h2 h3 h4 : Nat) (out : Int32) (tcp : Int32) (tkd : Int32) (tsd : Int32) (tlm : Int32) (tfu : Int32) (ttb : Int32) (trb : Int32) (tgr : Int32) (tK : Nat → Int32) (tV : Nat → Int32) (tO : Nat → Int32) (tW : Nat → Int32)  (hf : fX5_nextCapacity tcp tlm tfu = some out) : gG p l e rmX5_nextCapacity s m args below meth c D A 1 (MQ below (hQi D [(h0, .inr (5, [.ref h1, .ref h2, .ref h3, .ref h4, .int tcp, .int tkd, .int tsd, .int tlm, .int tfu, .int ttb, .int trb, .int tgr])), (h1, .inl (cI, 64, .inl tK)), (h2, .inl (cI, 64, .inl tV)), (h3, .inl (cI, 64, .inl tO)), (h4, .inl (cI, 64, .inl tW))] out A) args s 0 0 A) 0 0 0 [(0, .ref h0)] [] [(h0, .inr (5, [.ref h1, .ref h2, .ref h3, .ref h4, .int tcp, .int tkd, .int tsd, .int tlm, .int tfu, .int ttb, .int trb, .int tgr])), (h1, .inl (cI, 64, .inl tK)), (h2, .inl (cI, 64, .inl tV)), (h3, .inl (cI, 64, .inl tO)), (h4, .inl (cI, 64, .inl tW))] := by
  unfold fX5_nextCapacity at hf
  refine g_aload_n C0 dX5_nextCapacity_0 rfl 0 rfl ?_
  refine g_iconst C0 (v := (2 : Int32)) dX5_nextCapacity_1 (by decide) ?_
  refine g_aload_n C0 dX5_nextCapacity_2 rfl 0 rfl ?_
  refine g_get C0 hinX5 0 rfl rfl 8 (by decide) q_73 rfl dX5_nextCapacity_3 ?_
  refine g_iconst C0 (v := (1 : Int32)) dX5_nextCapacity_6 (by decide) ?_
  refine g_iadd C0 dX5_nextCapacity_7 ?_
  refine g_imul C0 dX5_nextCapacity_8 ?_
  refine g_aload_n C0 dX5_nextCapacity_9 rfl 0 rfl ?_
  refine g_get C0 hinX5 0 rfl rfl 4 (by decide) q_64 rfl dX5_nextCapacity_10 ?_
  obtain ⟨r1, er1, hf⟩ := hl_bd hf
  try dsimp only at hf
  refine g_callVi C0 (ws' := [(h0, .inr (5, [.ref h1, .ref h2, .ref h3, .ref h4, .int tcp, .int tkd, .int tsd, .int tlm, .int tfu, .int ttb, .int trb, .int tgr])), (h1, .inl (cI, 64, .inl tK)), (h2, .inl (cI, 64, .inl tV)), (h3, .inl (cI, 64, .inl tO)), (h4, .inl (cI, 64, .inl tW))]) (mX5_exceedsLimit l D cB cC cI cO  h0 h1 h2 h3 h4 tcp tkd tsd tlm tfu ttb trb tgr tK tV tO tW ((2 : Int32) * (tfu + (1 : Int32))) tcp r1 er1) hmX5_exceedsLimit q_233 ⟨Nat.le_of_ble_eq_true rfl, Nat.le_of_ble_eq_true rfl⟩ ⟨Nat.le_of_ble_eq_true rfl, Nat.le_of_ble_eq_true rfl⟩ rfl rfl [0, 1, 2, 3, 4] rfl rfl rfl rfl rfl 0 rfl rfl rfl (Nat.le_of_ble_eq_true rfl) dX5_nextCapacity_13 ?_
  refine g_if_ne C0 (tgt := 24) dX5_nextCapacity_16 (by decide) (fun c2 => ?_) (fun c2 => ?_)
  · rw [if_neg c2] at hf
    refine g_iconst C0 (v := (2 : Int32)) dX5_nextCapacity_24 (by decide) ?_
    refine g_aload_n C0 dX5_nextCapacity_25 rfl 0 rfl ?_
    refine g_get C0 hinX5 0 rfl rfl 4 (by decide) q_64 rfl dX5_nextCapacity_26 ?_
    refine g_imul C0 dX5_nextCapacity_29 ?_
    refine g_bipush C0 (v := (64 : Int32)) dX5_nextCapacity_30 (by decide) ?_
    refine g_mmin C0 q_582 q_583 q_22 q_584 (Nat.le_of_ble_eq_true rfl) ⟨Nat.le_of_ble_eq_true rfl, Nat.le_of_ble_eq_true rfl⟩ (Nat.le_of_ble_eq_true rfl) dX5_nextCapacity_32 ?_
    cases hf
    exact g_iret C0 rfl dX5_nextCapacity_35 rfl rfl
  · rw [if_pos c2] at hf
    refine g_aload_n C0 dX5_nextCapacity_19 rfl 0 rfl ?_
    refine g_get C0 hinX5 0 rfl rfl 4 (by decide) q_64 rfl dX5_nextCapacity_20 ?_
    cases hf
    exact g_iret C0 rfl dX5_nextCapacity_23 rfl rfl
theorem mX5_nextCapacity (l : Launch) (D : va_G) (cB cC cI cO : ClassId)  (h0 h1 h2 h3 h4 : Nat) (tcp : Int32) (tkd : Int32) (tsd : Int32) (tlm : Int32) (tfu : Int32) (ttb : Int32) (trb : Int32) (tgr : Int32) (tK : Nat → Int32) (tV : Nat → Int32) (tO : Nat → Int32) (tW : Nat → Int32)  (out : Int32) (hf : fX5_nextCapacity tcp tlm tfu = some out) : ∀ sz, Met l yX5_nextCapacity (ws_ yX5_nextCapacity cX5_nextCapacity 1 (some .int)) rmX5_nextCapacity (va_Pc [.ref h0] (hPre D (hTy cB cC cI cO) [(h0, .inr (5, [.ref h1, .ref h2, .ref h3, .ref h4, .int tcp, .int tkd, .int tsd, .int tlm, .int tfu, .int ttb, .int trb, .int tgr])), (h1, .inl (cI, 64, .inl tK)), (h2, .inl (cI, 64, .inl tV)), (h3, .inl (cI, 64, .inl tO)), (h4, .inl (cI, 64, .inl tW))] sz)) (hQi D [(h0, .inr (5, [.ref h1, .ref h2, .ref h3, .ref h4, .int tcp, .int tkd, .int tsd, .int tlm, .int tfu, .int ttb, .int trb, .int tgr])), (h1, .inl (cI, 64, .inl tK)), (h2, .inl (cI, 64, .inl tV)), (h3, .inl (cI, 64, .inl tO)), (h4, .inl (cI, 64, .inl tW))] out (va_A [(h0, .inr (5, [.ref h1, .ref h2, .ref h3, .ref h4, .int tcp, .int tkd, .int tsd, .int tlm, .int tfu, .int ttb, .int trb, .int tgr])), (h1, .inl (cI, 64, .inl tK)), (h2, .inl (cI, 64, .inl tV)), (h3, .inl (cI, 64, .inl tO)), (h4, .inl (cI, 64, .inl tW))] sz)) 0 0 (va_A [(h0, .inr (5, [.ref h1, .ref h2, .ref h3, .ref h4, .int tcp, .int tkd, .int tsd, .int tlm, .int tfu, .int ttb, .int trb, .int tgr])), (h1, .inl (cI, 64, .inl tK)), (h2, .inl (cI, 64, .inl tV)), (h3, .inl (cI, 64, .inl tO)), (h4, .inl (cI, 64, .inl tW))] sz) :=
  g_met (Qf := fun A => hQi D [(h0, .inr (5, [.ref h1, .ref h2, .ref h3, .ref h4, .int tcp, .int tkd, .int tsd, .int tlm, .int tfu, .int ttb, .int trb, .int tgr])), (h1, .inl (cI, 64, .inl tK)), (h2, .inl (cI, 64, .inl tV)), (h3, .inl (cI, 64, .inl tO)), (h4, .inl (cI, 64, .inl tW))] out A) (by decide +kernel) (Nat.le_of_ble_eq_true rfl) rfl (fun C0 => bX5_nextCapacity C0 h0 h1 h2 h3 h4 out tcp tkd tsd tlm tfu ttb trb tgr tK tV tO tW  hf)
abbrev rmX5_hasRoom : Room := { frames := 2, cells := 0, slots := 0, locals := 60 }
theorem hmX5_hasRoom : hMV yX5_hasRoom cX5_hasRoom 1 (some .boolean) 0 := ⟨q_576, q_13, q_574, q_575, by decide, by decide, by decide +kernel⟩
theorem dX5_hasRoom_0 : decode cX5_hasRoom 0 = .ok (.aload_n 0, 1) := by decide +kernel
theorem dX5_hasRoom_1 : decode cX5_hasRoom 1 = .ok (.invokevirtual 104, 3) := by decide +kernel
theorem dX5_hasRoom_4 : decode cX5_hasRoom 4 = .ok (.ifCond .eq 20, 3) := by decide +kernel
theorem dX5_hasRoom_7 : decode cX5_hasRoom 7 = .ok (.aload_n 0, 1) := by decide +kernel
theorem dX5_hasRoom_8 : decode cX5_hasRoom 8 = .ok (.aload_n 0, 1) := by decide +kernel
theorem dX5_hasRoom_9 : decode cX5_hasRoom 9 = .ok (.getfield 49, 3) := by decide +kernel
theorem dX5_hasRoom_12 : decode cX5_hasRoom 12 = .ok (.iconst 1, 1) := by decide +kernel
theorem dX5_hasRoom_13 : decode cX5_hasRoom 13 = .ok (.iadd, 1) := by decide +kernel
theorem dX5_hasRoom_14 : decode cX5_hasRoom 14 = .ok (.aload_n 0, 1) := by decide +kernel
theorem dX5_hasRoom_15 : decode cX5_hasRoom 15 = .ok (.invokevirtual 108, 3) := by decide +kernel
theorem dX5_hasRoom_18 : decode cX5_hasRoom 18 = .ok (.invokevirtual 100, 3) := by decide +kernel
theorem dX5_hasRoom_21 : decode cX5_hasRoom 21 = .ok (.ifCond .ne 7, 3) := by decide +kernel
theorem dX5_hasRoom_24 : decode cX5_hasRoom 24 = .ok (.iconst 1, 1) := by decide +kernel
theorem dX5_hasRoom_25 : decode cX5_hasRoom 25 = .ok (.goto 4, 3) := by decide +kernel
theorem dX5_hasRoom_28 : decode cX5_hasRoom 28 = .ok (.iconst 0, 1) := by decide +kernel
theorem dX5_hasRoom_29 : decode cX5_hasRoom 29 = .ok (.ireturn, 1) := by decide +kernel
set_option maxHeartbeats 4000000 in
set_option maxRecDepth 100000 in
theorem bX5_hasRoom {p : Program} {l : Launch} {e : Env} {s : State} {m : MethodId} {args : Array Value} {below : List Frame} {meth : Method} {c : Code} {D : va_G} {cB cC cI cO : ClassId} {A : Nat → Prop} (C0 : gC RX5 cX5_hasRoom 1 (some .boolean) p s m args meth c D (hTy cB cC cI cO) A) (h0 h1 h2 h3 h4 : Nat) (out : Int32) (tcp : Int32) (tkd : Int32) (tsd : Int32) (tlm : Int32) (tfu : Int32) (ttb : Int32) (trb : Int32) (tgr : Int32) (tK : Nat → Int32) (tV : Nat → Int32) (tO : Nat → Int32) (tW : Nat → Int32)  (hf : fX5_hasRoom tcp tlm tfu ttb = some out) : gG p l e rmX5_hasRoom s m args below meth c D A 1 (MQ below (hQi D [(h0, .inr (5, [.ref h1, .ref h2, .ref h3, .ref h4, .int tcp, .int tkd, .int tsd, .int tlm, .int tfu, .int ttb, .int trb, .int tgr])), (h1, .inl (cI, 64, .inl tK)), (h2, .inl (cI, 64, .inl tV)), (h3, .inl (cI, 64, .inl tO)), (h4, .inl (cI, 64, .inl tW))] out A) args s 0 0 A) 0 0 0 [(0, .ref h0)] [] [(h0, .inr (5, [.ref h1, .ref h2, .ref h3, .ref h4, .int tcp, .int tkd, .int tsd, .int tlm, .int tfu, .int ttb, .int trb, .int tgr])), (h1, .inl (cI, 64, .inl tK)), (h2, .inl (cI, 64, .inl tV)), (h3, .inl (cI, 64, .inl tO)), (h4, .inl (cI, 64, .inl tW))] := by
  unfold fX5_hasRoom at hf
  refine g_aload_n C0 dX5_hasRoom_0 rfl 0 rfl ?_
  obtain ⟨r1, er1, hf⟩ := hl_bd hf
  try dsimp only at hf
  refine g_callVi C0 (ws' := [(h0, .inr (5, [.ref h1, .ref h2, .ref h3, .ref h4, .int tcp, .int tkd, .int tsd, .int tlm, .int tfu, .int ttb, .int trb, .int tgr])), (h1, .inl (cI, 64, .inl tK)), (h2, .inl (cI, 64, .inl tV)), (h3, .inl (cI, 64, .inl tO)), (h4, .inl (cI, 64, .inl tW))]) (mX5_needsRebuild l D cB cC cI cO  h0 h1 h2 h3 h4 tcp tkd tsd tlm tfu ttb trb tgr tK tV tO tW  r1 er1) hmX5_needsRebuild q_577 ⟨Nat.le_of_ble_eq_true rfl, Nat.le_of_ble_eq_true rfl⟩ ⟨Nat.le_of_ble_eq_true rfl, Nat.le_of_ble_eq_true rfl⟩ rfl rfl [0, 1, 2, 3, 4] rfl rfl rfl rfl rfl 0 rfl rfl rfl (Nat.le_of_ble_eq_true rfl) dX5_hasRoom_1 ?_
  refine g_if_eq C0 (tgt := 24) dX5_hasRoom_4 (by decide) (fun c2 => ?_) (fun c2 => ?_)
  · rw [if_pos c2] at hf
    refine g_iconst C0 (v := (1 : Int32)) dX5_hasRoom_24 (by decide) ?_
    refine g_goto C0 (tgt := 29) dX5_hasRoom_25 (by decide) ?_
    cases hf
    exact g_iret C0 rfl dX5_hasRoom_29 rfl rfl
  · rw [if_neg c2] at hf
    refine g_aload_n C0 dX5_hasRoom_7 rfl 0 rfl ?_
    refine g_aload_n C0 dX5_hasRoom_8 rfl 0 rfl ?_
    refine g_get C0 hinX5 0 rfl rfl 8 (by decide) q_73 rfl dX5_hasRoom_9 ?_
    refine g_iconst C0 (v := (1 : Int32)) dX5_hasRoom_12 (by decide) ?_
    refine g_iadd C0 dX5_hasRoom_13 ?_
    refine g_aload_n C0 dX5_hasRoom_14 rfl 0 rfl ?_
    obtain ⟨r3, er3, hf⟩ := hl_bd hf
    try dsimp only at hf
    refine g_callVi C0 (ws' := [(h0, .inr (5, [.ref h1, .ref h2, .ref h3, .ref h4, .int tcp, .int tkd, .int tsd, .int tlm, .int tfu, .int ttb, .int trb, .int tgr])), (h1, .inl (cI, 64, .inl tK)), (h2, .inl (cI, 64, .inl tV)), (h3, .inl (cI, 64, .inl tO)), (h4, .inl (cI, 64, .inl tW))]) (mX5_nextCapacity l D cB cC cI cO  h0 h1 h2 h3 h4 tcp tkd tsd tlm tfu ttb trb tgr tK tV tO tW  r3 er3) hmX5_nextCapacity q_578 ⟨Nat.le_of_ble_eq_true rfl, Nat.le_of_ble_eq_true rfl⟩ ⟨Nat.le_of_ble_eq_true rfl, Nat.le_of_ble_eq_true rfl⟩ rfl rfl [0, 1, 2, 3, 4] rfl rfl rfl rfl rfl 0 rfl rfl rfl (Nat.le_of_ble_eq_true rfl) dX5_hasRoom_15 ?_
    obtain ⟨r4, er4, hf⟩ := hl_bd hf
    try dsimp only at hf
    refine g_callVi C0 (ws' := [(h0, .inr (5, [.ref h1, .ref h2, .ref h3, .ref h4, .int tcp, .int tkd, .int tsd, .int tlm, .int tfu, .int ttb, .int trb, .int tgr])), (h1, .inl (cI, 64, .inl tK)), (h2, .inl (cI, 64, .inl tV)), (h3, .inl (cI, 64, .inl tO)), (h4, .inl (cI, 64, .inl tW))]) (mX5_exceedsLimit l D cB cC cI cO  h0 h1 h2 h3 h4 tcp tkd tsd tlm tfu ttb trb tgr tK tV tO tW (tfu + (1 : Int32)) r3 r4 er4) hmX5_exceedsLimit q_233 ⟨Nat.le_of_ble_eq_true rfl, Nat.le_of_ble_eq_true rfl⟩ ⟨Nat.le_of_ble_eq_true rfl, Nat.le_of_ble_eq_true rfl⟩ rfl rfl [0, 1, 2, 3, 4] rfl rfl rfl rfl rfl 0 rfl rfl rfl (Nat.le_of_ble_eq_true rfl) dX5_hasRoom_18 ?_
    refine g_if_ne C0 (tgt := 28) dX5_hasRoom_21 (by decide) (fun c5 => ?_) (fun c5 => ?_)
    · rw [if_neg c5] at hf
      refine g_iconst C0 (v := (0 : Int32)) dX5_hasRoom_28 (by decide) ?_
      cases hf
      exact g_iret C0 rfl dX5_hasRoom_29 rfl rfl
    · rw [if_pos c5] at hf
      refine g_iconst C0 (v := (1 : Int32)) dX5_hasRoom_24 (by decide) ?_
      refine g_goto C0 (tgt := 29) dX5_hasRoom_25 (by decide) ?_
      cases hf
      exact g_iret C0 rfl dX5_hasRoom_29 rfl rfl
theorem mX5_hasRoom (l : Launch) (D : va_G) (cB cC cI cO : ClassId)  (h0 h1 h2 h3 h4 : Nat) (tcp : Int32) (tkd : Int32) (tsd : Int32) (tlm : Int32) (tfu : Int32) (ttb : Int32) (trb : Int32) (tgr : Int32) (tK : Nat → Int32) (tV : Nat → Int32) (tO : Nat → Int32) (tW : Nat → Int32)  (out : Int32) (hf : fX5_hasRoom tcp tlm tfu ttb = some out) : ∀ sz, Met l yX5_hasRoom (ws_ yX5_hasRoom cX5_hasRoom 1 (some .boolean)) rmX5_hasRoom (va_Pc [.ref h0] (hPre D (hTy cB cC cI cO) [(h0, .inr (5, [.ref h1, .ref h2, .ref h3, .ref h4, .int tcp, .int tkd, .int tsd, .int tlm, .int tfu, .int ttb, .int trb, .int tgr])), (h1, .inl (cI, 64, .inl tK)), (h2, .inl (cI, 64, .inl tV)), (h3, .inl (cI, 64, .inl tO)), (h4, .inl (cI, 64, .inl tW))] sz)) (hQi D [(h0, .inr (5, [.ref h1, .ref h2, .ref h3, .ref h4, .int tcp, .int tkd, .int tsd, .int tlm, .int tfu, .int ttb, .int trb, .int tgr])), (h1, .inl (cI, 64, .inl tK)), (h2, .inl (cI, 64, .inl tV)), (h3, .inl (cI, 64, .inl tO)), (h4, .inl (cI, 64, .inl tW))] out (va_A [(h0, .inr (5, [.ref h1, .ref h2, .ref h3, .ref h4, .int tcp, .int tkd, .int tsd, .int tlm, .int tfu, .int ttb, .int trb, .int tgr])), (h1, .inl (cI, 64, .inl tK)), (h2, .inl (cI, 64, .inl tV)), (h3, .inl (cI, 64, .inl tO)), (h4, .inl (cI, 64, .inl tW))] sz)) 0 0 (va_A [(h0, .inr (5, [.ref h1, .ref h2, .ref h3, .ref h4, .int tcp, .int tkd, .int tsd, .int tlm, .int tfu, .int ttb, .int trb, .int tgr])), (h1, .inl (cI, 64, .inl tK)), (h2, .inl (cI, 64, .inl tV)), (h3, .inl (cI, 64, .inl tO)), (h4, .inl (cI, 64, .inl tW))] sz) :=
  g_met (Qf := fun A => hQi D [(h0, .inr (5, [.ref h1, .ref h2, .ref h3, .ref h4, .int tcp, .int tkd, .int tsd, .int tlm, .int tfu, .int ttb, .int trb, .int tgr])), (h1, .inl (cI, 64, .inl tK)), (h2, .inl (cI, 64, .inl tV)), (h3, .inl (cI, 64, .inl tO)), (h4, .inl (cI, 64, .inl tW))] out A) (by decide +kernel) (Nat.le_of_ble_eq_true rfl) rfl (fun C0 => bX5_hasRoom C0 h0 h1 h2 h3 h4 out tcp tkd tsd tlm tfu ttb trb tgr tK tV tO tW  hf)
abbrev rmX5_place : Room := { frames := 2, cells := 0, slots := 0, locals := 45 }
theorem hmX5_place : hMV yX5_place cX5_place 5 none 2 := ⟨q_595, q_13, q_594, q_6, by decide, by decide, by decide +kernel⟩
theorem dX5_place_0 : decode cX5_place 0 = .ok (.iconst 0, 1) := by decide +kernel
theorem dX5_place_1 : decode cX5_place 1 = .ok (.istore_n 3, 1) := by decide +kernel
theorem dX5_place_2 : decode cX5_place 2 = .ok (.iload_n 3, 1) := by decide +kernel
theorem dX5_place_3 : decode cX5_place 3 = .ok (.aload_n 0, 1) := by decide +kernel
theorem dX5_place_4 : decode cX5_place 4 = .ok (.getfield 31, 3) := by decide +kernel
theorem dX5_place_7 : decode cX5_place 7 = .ok (.if_icmp .ge 84, 3) := by decide +kernel
theorem dX5_place_10 : decode cX5_place 10 = .ok (.aload_n 0, 1) := by decide +kernel
theorem dX5_place_11 : decode cX5_place 11 = .ok (.iload_n 1, 1) := by decide +kernel
theorem dX5_place_12 : decode cX5_place 12 = .ok (.iload_n 3, 1) := by decide +kernel
theorem dX5_place_13 : decode cX5_place 13 = .ok (.invokevirtual 88, 3) := by decide +kernel
theorem dX5_place_16 : decode cX5_place 16 = .ok (.istore 4, 2) := by decide +kernel
theorem dX5_place_18 : decode cX5_place 18 = .ok (.iload 4, 2) := by decide +kernel
theorem dX5_place_20 : decode cX5_place 20 = .ok (.invokestatic 65, 3) := by decide +kernel
theorem dX5_place_23 : decode cX5_place 23 = .ok (.ifCond .eq 62, 3) := by decide +kernel
theorem dX5_place_26 : decode cX5_place 26 = .ok (.aload_n 0, 1) := by decide +kernel
theorem dX5_place_27 : decode cX5_place 27 = .ok (.getfield 9, 3) := by decide +kernel
theorem dX5_place_30 : decode cX5_place 30 = .ok (.iload 4, 2) := by decide +kernel
theorem dX5_place_32 : decode cX5_place 32 = .ok (.iaload, 1) := by decide +kernel
theorem dX5_place_33 : decode cX5_place 33 = .ok (.ifCond .ge 52, 3) := by decide +kernel
theorem dX5_place_36 : decode cX5_place 36 = .ok (.aload_n 0, 1) := by decide +kernel
theorem dX5_place_37 : decode cX5_place 37 = .ok (.getfield 9, 3) := by decide +kernel
theorem dX5_place_40 : decode cX5_place 40 = .ok (.iload 4, 2) := by decide +kernel
theorem dX5_place_42 : decode cX5_place 42 = .ok (.iaload, 1) := by decide +kernel
theorem dX5_place_43 : decode cX5_place 43 = .ok (.bipush (-2), 2) := by decide +kernel
theorem dX5_place_45 : decode cX5_place 45 = .ok (.if_icmp .ne 13, 3) := by decide +kernel
theorem dX5_place_48 : decode cX5_place 48 = .ok (.aload_n 0, 1) := by decide +kernel
theorem dX5_place_49 : decode cX5_place 49 = .ok (.dup, 1) := by decide +kernel
theorem dX5_place_50 : decode cX5_place 50 = .ok (.getfield 52, 3) := by decide +kernel
theorem dX5_place_53 : decode cX5_place 53 = .ok (.iconst 1, 1) := by decide +kernel
theorem dX5_place_54 : decode cX5_place 54 = .ok (.isub, 1) := by decide +kernel
theorem dX5_place_55 : decode cX5_place 55 = .ok (.putfield 52, 3) := by decide +kernel
theorem dX5_place_58 : decode cX5_place 58 = .ok (.aload_n 0, 1) := by decide +kernel
theorem dX5_place_59 : decode cX5_place 59 = .ok (.getfield 9, 3) := by decide +kernel
theorem dX5_place_62 : decode cX5_place 62 = .ok (.iload 4, 2) := by decide +kernel
theorem dX5_place_64 : decode cX5_place 64 = .ok (.iload_n 1, 1) := by decide +kernel
theorem dX5_place_65 : decode cX5_place 65 = .ok (.iastore, 1) := by decide +kernel
theorem dX5_place_66 : decode cX5_place 66 = .ok (.aload_n 0, 1) := by decide +kernel
theorem dX5_place_67 : decode cX5_place 67 = .ok (.getfield 15, 3) := by decide +kernel
theorem dX5_place_70 : decode cX5_place 70 = .ok (.iload 4, 2) := by decide +kernel
theorem dX5_place_72 : decode cX5_place 72 = .ok (.iload_n 2, 1) := by decide +kernel
theorem dX5_place_73 : decode cX5_place 73 = .ok (.iastore, 1) := by decide +kernel
theorem dX5_place_74 : decode cX5_place 74 = .ok (.aload_n 0, 1) := by decide +kernel
theorem dX5_place_75 : decode cX5_place 75 = .ok (.dup, 1) := by decide +kernel
theorem dX5_place_76 : decode cX5_place 76 = .ok (.getfield 49, 3) := by decide +kernel
theorem dX5_place_79 : decode cX5_place 79 = .ok (.iconst 1, 1) := by decide +kernel
theorem dX5_place_80 : decode cX5_place 80 = .ok (.iadd, 1) := by decide +kernel
theorem dX5_place_81 : decode cX5_place 81 = .ok (.putfield 49, 3) := by decide +kernel
theorem dX5_place_84 : decode cX5_place 84 = .ok (.return_, 1) := by decide +kernel
theorem dX5_place_85 : decode cX5_place 85 = .ok (.iinc 3 1, 3) := by decide +kernel
theorem dX5_place_88 : decode cX5_place 88 = .ok (.goto (-86), 3) := by decide +kernel
theorem dX5_place_91 : decode cX5_place 91 = .ok (.return_, 1) := by decide +kernel
set_option maxHeartbeats 4000000 in
set_option maxRecDepth 100000 in
theorem bX5_place_58 {p : Program} {l : Launch} {e : Env} {s : State} {m : MethodId} {args : Array Value} {below : List Frame} {meth : Method} {c : Code} {D : va_G} {cB cC cI cO : ClassId} {A : Nat → Prop} (C0 : gC RX5 cX5_place 5 none p s m args meth c D (hTy cB cC cI cO) A) (h0 h1 h2 h3 h4 : Nat) (out : Int32 × Int32 × (Nat → Int32) × (Nat → Int32)) (tlm : Int32) (trb : Int32) (tgr : Int32) (tO : Nat → Int32) (tW : Nat → Int32)   : ∀ (tcp : Int32) (tkd : Int32) (tsd : Int32) (tfu : Int32) (ttb : Int32) (tK : Nat → Int32) (tV : Nat → Int32) (v1 : Int32) (v2 : Int32) (v4 : Int32), fX5_place_58 tcp tkd tsd tfu ttb tK tV v1 v2 v4 = some out → gG p l e rmX5_place s m args below meth c D A 5 (MQ below (hQv D [(h0, .inr (5, [.ref h1, .ref h2, .ref h3, .ref h4, .int tcp, .int tkd, .int tsd, .int tlm, .int out.1, .int out.2.1, .int trb, .int tgr])), (h1, .inl (cI, 64, .inl out.2.2.1)), (h2, .inl (cI, 64, .inl out.2.2.2)), (h3, .inl (cI, 64, .inl tO)), (h4, .inl (cI, 64, .inl tW))] A) args s 0 0 A) 0 0 58 [(0, .ref h0), (1, .int v1), (2, .int v2), (4, .int v4)] [] [(h0, .inr (5, [.ref h1, .ref h2, .ref h3, .ref h4, .int tcp, .int tkd, .int tsd, .int tlm, .int tfu, .int ttb, .int trb, .int tgr])), (h1, .inl (cI, 64, .inl tK)), (h2, .inl (cI, 64, .inl tV)), (h3, .inl (cI, 64, .inl tO)), (h4, .inl (cI, 64, .inl tW))] := by
  intro tcp tkd tsd tfu ttb tK tV v1 v2 v4 hf
  unfold fX5_place_58 at hf
  refine g_aload_n C0 dX5_place_58 rfl 0 rfl ?_
  refine g_get C0 hinX5 0 rfl rfl 0 (by decide) q_60 rfl dX5_place_59 ?_
  refine g_iload C0 dX5_place_62 3 rfl ?_
  refine g_iload_n C0 dX5_place_64 rfl 1 rfl ?_
  obtain ⟨i9, hf⟩ := hl_ifS hf
  refine g_iast C0 (ws' := [(h0, .inr (5, [.ref h1, .ref h2, .ref h3, .ref h4, .int tcp, .int tkd, .int tsd, .int tlm, .int tfu, .int ttb, .int trb, .int tgr])), (h1, .inl (cI, 64, .inl (upd tK (v4.toNatClampNeg) v1))), (h2, .inl (cI, 64, .inl tV)), (h3, .inl (cI, 64, .inl tO)), (h4, .inl (cI, 64, .inl tW))]) 1 1 rfl rfl i9 rfl dX5_place_65 rfl ?_
  refine g_aload_n C0 dX5_place_66 rfl 0 rfl ?_
  refine g_get C0 hinX5 0 rfl rfl 1 (by decide) q_61 rfl dX5_place_67 ?_
  refine g_iload C0 dX5_place_70 3 rfl ?_
  refine g_iload_n C0 dX5_place_72 rfl 2 rfl ?_
  obtain ⟨i10, hf⟩ := hl_ifS hf
  refine g_iast C0 (ws' := [(h0, .inr (5, [.ref h1, .ref h2, .ref h3, .ref h4, .int tcp, .int tkd, .int tsd, .int tlm, .int tfu, .int ttb, .int trb, .int tgr])), (h1, .inl (cI, 64, .inl (upd tK (v4.toNatClampNeg) v1))), (h2, .inl (cI, 64, .inl (upd tV (v4.toNatClampNeg) v2))), (h3, .inl (cI, 64, .inl tO)), (h4, .inl (cI, 64, .inl tW))]) 2 1 rfl rfl i10 rfl dX5_place_73 rfl ?_
  refine g_aload_n C0 dX5_place_74 rfl 0 rfl ?_
  refine g_dup C0 dX5_place_75 rfl ?_
  refine g_get C0 hinX5 0 rfl rfl 8 (by decide) q_73 rfl dX5_place_76 ?_
  refine g_iconst C0 (v := (1 : Int32)) dX5_place_79 (by decide) ?_
  refine g_iadd C0 dX5_place_80 ?_
  refine g_put C0 (ws' := [(h0, .inr (5, [.ref h1, .ref h2, .ref h3, .ref h4, .int tcp, .int tkd, .int tsd, .int tlm, .int (tfu + (1 : Int32)), .int ttb, .int trb, .int tgr])), (h1, .inl (cI, 64, .inl (upd tK (v4.toNatClampNeg) v1))), (h2, .inl (cI, 64, .inl (upd tV (v4.toNatClampNeg) v2))), (h3, .inl (cI, 64, .inl tO)), (h4, .inl (cI, 64, .inl tW))]) hinX5 0 rfl rfl 8 (by decide) q_73 tyX5_ok nmX5 rfl rfl rfl (Nat.le_of_ble_eq_true rfl) rfl dX5_place_81 ?_
  cases hf
  exact g_vret C0 dX5_place_84 rfl
set_option maxHeartbeats 4000000 in
set_option maxRecDepth 100000 in
theorem bX5_place_85 {p : Program} {l : Launch} {e : Env} {s : State} {m : MethodId} {args : Array Value} {below : List Frame} {meth : Method} {c : Code} {D : va_G} {cB cC cI cO : ClassId} {A : Nat → Prop} (C0 : gC RX5 cX5_place 5 none p s m args meth c D (hTy cB cC cI cO) A) (h0 h1 h2 h3 h4 : Nat) (out : Int32 × Int32 × (Nat → Int32) × (Nat → Int32)) (tlm : Int32) (trb : Int32) (tgr : Int32) (tO : Nat → Int32) (tW : Nat → Int32) (rec2 : Int32 → Int32 → Int32 → Int32 → Int32 → (Nat → Int32) → (Nat → Int32) → Int32 → Int32 → Int32 → Option (Int32 × Int32 × (Nat → Int32) × (Nat → Int32))) (hrec2 : ∀ (tcp : Int32) (tkd : Int32) (tsd : Int32) (tfu : Int32) (ttb : Int32) (tK : Nat → Int32) (tV : Nat → Int32) (v1 : Int32) (v2 : Int32) (v3 : Int32), rec2 tcp tkd tsd tfu ttb tK tV v1 v2 v3 = some out → gG p l e rmX5_place s m args below meth c D A 5 (MQ below (hQv D [(h0, .inr (5, [.ref h1, .ref h2, .ref h3, .ref h4, .int tcp, .int tkd, .int tsd, .int tlm, .int out.1, .int out.2.1, .int trb, .int tgr])), (h1, .inl (cI, 64, .inl out.2.2.1)), (h2, .inl (cI, 64, .inl out.2.2.2)), (h3, .inl (cI, 64, .inl tO)), (h4, .inl (cI, 64, .inl tW))] A) args s 0 0 A) 0 0 2 [(0, .ref h0), (1, .int v1), (2, .int v2), (3, .int v3)] [] [(h0, .inr (5, [.ref h1, .ref h2, .ref h3, .ref h4, .int tcp, .int tkd, .int tsd, .int tlm, .int tfu, .int ttb, .int trb, .int tgr])), (h1, .inl (cI, 64, .inl tK)), (h2, .inl (cI, 64, .inl tV)), (h3, .inl (cI, 64, .inl tO)), (h4, .inl (cI, 64, .inl tW))]) : ∀ (tcp : Int32) (tkd : Int32) (tsd : Int32) (tfu : Int32) (ttb : Int32) (tK : Nat → Int32) (tV : Nat → Int32) (v1 : Int32) (v2 : Int32) (v3 : Int32), fX5_place_85 rec2 tcp tkd tsd tfu ttb tK tV v1 v2 v3 = some out → gG p l e rmX5_place s m args below meth c D A 5 (MQ below (hQv D [(h0, .inr (5, [.ref h1, .ref h2, .ref h3, .ref h4, .int tcp, .int tkd, .int tsd, .int tlm, .int out.1, .int out.2.1, .int trb, .int tgr])), (h1, .inl (cI, 64, .inl out.2.2.1)), (h2, .inl (cI, 64, .inl out.2.2.2)), (h3, .inl (cI, 64, .inl tO)), (h4, .inl (cI, 64, .inl tW))] A) args s 0 0 A) 0 0 85 [(0, .ref h0), (1, .int v1), (2, .int v2), (3, .int v3)] [] [(h0, .inr (5, [.ref h1, .ref h2, .ref h3, .ref h4, .int tcp, .int tkd, .int tsd, .int tlm, .int tfu, .int ttb, .int trb, .int tgr])), (h1, .inl (cI, 64, .inl tK)), (h2, .inl (cI, 64, .inl tV)), (h3, .inl (cI, 64, .inl tO)), (h4, .inl (cI, 64, .inl tW))] := by
  intro tcp tkd tsd tfu ttb tK tV v1 v2 v3 hf
  unfold fX5_place_85 at hf
  refine g_iinc C0 (lv' := [(3, .int (v3 + (1 : Int32))), (0, .ref h0), (1, .int v1), (2, .int v2)]) dX5_place_85 3 rfl rfl (by decide) rfl ?_
  refine g_goto C0 (tgt := 2) dX5_place_88 (by decide) ?_
  refine g_lv [1, 2, 3, 0] (lv' := [(0, .ref h0), (1, .int v1), (2, .int v2), (3, .int (v3 + (1 : Int32)))]) rfl ?_
  exact hrec2 tcp tkd tsd tfu ttb tK tV v1 v2 (v3 + (1 : Int32)) hf
set_option maxHeartbeats 4000000 in
set_option maxRecDepth 100000 in
theorem bX5_place_2 {p : Program} {l : Launch} {e : Env} {s : State} {m : MethodId} {args : Array Value} {below : List Frame} {meth : Method} {c : Code} {D : va_G} {cB cC cI cO : ClassId} {A : Nat → Prop} (C0 : gC RX5 cX5_place 5 none p s m args meth c D (hTy cB cC cI cO) A) (h0 h1 h2 h3 h4 : Nat) (out : Int32 × Int32 × (Nat → Int32) × (Nat → Int32)) (tlm : Int32) (trb : Int32) (tgr : Int32) (tO : Nat → Int32) (tW : Nat → Int32)   : ∀ (n : Nat) (tcp : Int32) (tkd : Int32) (tsd : Int32) (tfu : Int32) (ttb : Int32) (tK : Nat → Int32) (tV : Nat → Int32) (v1 : Int32) (v2 : Int32) (v3 : Int32), fX5_place_2 n tcp tkd tsd tfu ttb tK tV v1 v2 v3 = some out → gG p l e rmX5_place s m args below meth c D A 5 (MQ below (hQv D [(h0, .inr (5, [.ref h1, .ref h2, .ref h3, .ref h4, .int tcp, .int tkd, .int tsd, .int tlm, .int out.1, .int out.2.1, .int trb, .int tgr])), (h1, .inl (cI, 64, .inl out.2.2.1)), (h2, .inl (cI, 64, .inl out.2.2.2)), (h3, .inl (cI, 64, .inl tO)), (h4, .inl (cI, 64, .inl tW))] A) args s 0 0 A) 0 0 2 [(0, .ref h0), (1, .int v1), (2, .int v2), (3, .int v3)] [] [(h0, .inr (5, [.ref h1, .ref h2, .ref h3, .ref h4, .int tcp, .int tkd, .int tsd, .int tlm, .int tfu, .int ttb, .int trb, .int tgr])), (h1, .inl (cI, 64, .inl tK)), (h2, .inl (cI, 64, .inl tV)), (h3, .inl (cI, 64, .inl tO)), (h4, .inl (cI, 64, .inl tW))] := by
  intro n
  induction n with
  | zero => intro tcp tkd tsd tfu ttb tK tV v1 v2 v3 hf; rw [fX5_place_2] at hf; cases hf
  | succ n ih =>
    intro tcp tkd tsd tfu ttb tK tV v1 v2 v3 hf
    rw [fX5_place_2] at hf
    refine g_iload_n C0 dX5_place_2 rfl 3 rfl ?_
    refine g_aload_n C0 dX5_place_3 rfl 0 rfl ?_
    refine g_get C0 hinX5 0 rfl rfl 4 (by decide) q_64 rfl dX5_place_4 ?_
    refine g_icmp_ge C0 (tgt := 91) dX5_place_7 (by decide) (fun c1 => ?_) (fun c1 => ?_)
    · rw [if_pos c1] at hf
      cases hf
      exact g_vret C0 dX5_place_91 rfl
    · rw [if_neg c1] at hf
      refine g_aload_n C0 dX5_place_10 rfl 0 rfl ?_
      refine g_iload_n C0 dX5_place_11 rfl 1 rfl ?_
      refine g_iload_n C0 dX5_place_12 rfl 3 rfl ?_
      obtain ⟨r2, er2, hf⟩ := hl_bd hf
      try dsimp only at hf
      refine g_callVi C0 (ws' := [(h0, .inr (5, [.ref h1, .ref h2, .ref h3, .ref h4, .int tcp, .int tkd, .int tsd, .int tlm, .int tfu, .int ttb, .int trb, .int tgr])), (h1, .inl (cI, 64, .inl tK)), (h2, .inl (cI, 64, .inl tV)), (h3, .inl (cI, 64, .inl tO)), (h4, .inl (cI, 64, .inl tW))]) (mX5_slotInSequence l D cB cC cI cO  h0 h1 h2 h3 h4 tcp tkd tsd tlm tfu ttb trb tgr tK tV tO tW v1 v3 r2 er2) hmX5_slotInSequence q_252 ⟨Nat.le_of_ble_eq_true rfl, Nat.le_of_ble_eq_true rfl⟩ ⟨Nat.le_of_ble_eq_true rfl, Nat.le_of_ble_eq_true rfl⟩ rfl rfl [0, 1, 2, 3, 4] rfl rfl rfl rfl rfl 0 rfl rfl rfl (Nat.le_of_ble_eq_true rfl) dX5_place_13 ?_
      refine g_istore C0 (lv' := [(4, .int r2), (0, .ref h0), (1, .int v1), (2, .int v2), (3, .int v3)]) dX5_place_16 (by decide) rfl ?_
      refine g_iload C0 dX5_place_18 0 rfl ?_
      obtain ⟨r3, er3, hf⟩ := hl_bd hf
      try dsimp only at hf
      refine g_callSi C0 (ws' := [(h0, .inr (5, [.ref h1, .ref h2, .ref h3, .ref h4, .int tcp, .int tkd, .int tsd, .int tlm, .int tfu, .int ttb, .int trb, .int tgr])), (h1, .inl (cI, 64, .inl tK)), (h2, .inl (cI, 64, .inl tV)), (h3, .inl (cI, 64, .inl tO)), (h4, .inl (cI, 64, .inl tW))]) (mX5_isInRows l D cB cC cI cO    r2 r3 er3) hmX5_isInRows q_278 ⟨Nat.le_of_ble_eq_true rfl, Nat.le_of_ble_eq_true rfl⟩ ⟨Nat.le_of_ble_eq_true rfl, Nat.le_of_ble_eq_true rfl⟩ rfl rfl [] rfl rfl rfl rfl rfl rfl (Nat.le_of_ble_eq_true rfl) dX5_place_20 ?_
      refine g_if_eq C0 (tgt := 85) dX5_place_23 (by decide) (fun c4 => ?_) (fun c4 => ?_)
      · rw [if_pos c4] at hf
        refine g_lv [1, 2, 3, 4] (lv' := [(0, .ref h0), (1, .int v1), (2, .int v2), (3, .int v3)]) rfl ?_
        exact bX5_place_85 C0 h0 h1 h2 h3 h4 out tlm trb tgr tO tW (fX5_place_2 n) ih  tcp tkd tsd tfu ttb tK tV v1 v2 v3 hf
      · rw [if_neg c4] at hf
        refine g_aload_n C0 dX5_place_26 rfl 1 rfl ?_
        refine g_get C0 hinX5 0 rfl rfl 0 (by decide) q_60 rfl dX5_place_27 ?_
        refine g_iload C0 dX5_place_30 0 rfl ?_
        obtain ⟨i5, hf⟩ := hl_ifS hf
        refine g_iald C0 1 1 rfl rfl i5 rfl dX5_place_32 ?_
        refine g_if_ge C0 (tgt := 85) dX5_place_33 (by decide) (fun c6 => ?_) (fun c6 => ?_)
        · rw [if_pos c6] at hf
          refine g_lv [1, 2, 3, 4] (lv' := [(0, .ref h0), (1, .int v1), (2, .int v2), (3, .int v3)]) rfl ?_
          exact bX5_place_85 C0 h0 h1 h2 h3 h4 out tlm trb tgr tO tW (fX5_place_2 n) ih  tcp tkd tsd tfu ttb tK tV v1 v2 v3 hf
        · rw [if_neg c6] at hf
          refine g_aload_n C0 dX5_place_36 rfl 1 rfl ?_
          refine g_get C0 hinX5 0 rfl rfl 0 (by decide) q_60 rfl dX5_place_37 ?_
          refine g_iload C0 dX5_place_40 0 rfl ?_
          obtain ⟨i7, hf⟩ := hl_ifS hf
          refine g_iald C0 1 1 rfl rfl i7 rfl dX5_place_42 ?_
          refine g_bipush C0 (v := (-2 : Int32)) dX5_place_43 (by decide) ?_
          refine g_icmp_ne C0 (tgt := 58) dX5_place_45 (by decide) (fun c8 => ?_) (fun c8 => ?_)
          · rw [if_neg c8] at hf
            refine g_lv [1, 2, 3, 0] (lv' := [(0, .ref h0), (1, .int v1), (2, .int v2), (4, .int r2)]) rfl ?_
            exact bX5_place_58 C0 h0 h1 h2 h3 h4 out tlm trb tgr tO tW  tcp tkd tsd tfu ttb tK tV v1 v2 r2 hf
          · rw [if_pos c8] at hf
            refine g_aload_n C0 dX5_place_48 rfl 1 rfl ?_
            refine g_dup C0 dX5_place_49 rfl ?_
            refine g_get C0 hinX5 0 rfl rfl 9 (by decide) q_75 rfl dX5_place_50 ?_
            refine g_iconst C0 (v := (1 : Int32)) dX5_place_53 (by decide) ?_
            refine g_isub C0 dX5_place_54 ?_
            refine g_put C0 (ws' := [(h0, .inr (5, [.ref h1, .ref h2, .ref h3, .ref h4, .int tcp, .int tkd, .int tsd, .int tlm, .int tfu, .int (ttb - (1 : Int32)), .int trb, .int tgr])), (h1, .inl (cI, 64, .inl tK)), (h2, .inl (cI, 64, .inl tV)), (h3, .inl (cI, 64, .inl tO)), (h4, .inl (cI, 64, .inl tW))]) hinX5 0 rfl rfl 9 (by decide) q_75 tyX5_ok nmX5 rfl rfl rfl (Nat.le_of_ble_eq_true rfl) rfl dX5_place_55 ?_
            refine g_lv [1, 2, 3, 0] (lv' := [(0, .ref h0), (1, .int v1), (2, .int v2), (4, .int r2)]) rfl ?_
            exact bX5_place_58 C0 h0 h1 h2 h3 h4 out tlm trb tgr tO tW  tcp tkd tsd tfu (ttb - (1 : Int32)) tK tV v1 v2 r2 hf
set_option maxHeartbeats 4000000 in
set_option maxRecDepth 100000 in
theorem bX5_place {p : Program} {l : Launch} {e : Env} {s : State} {m : MethodId} {args : Array Value} {below : List Frame} {meth : Method} {c : Code} {D : va_G} {cB cC cI cO : ClassId} {A : Nat → Prop} (C0 : gC RX5 cX5_place 5 none p s m args meth c D (hTy cB cC cI cO) A) (h0 h1 h2 h3 h4 : Nat) (out : Int32 × Int32 × (Nat → Int32) × (Nat → Int32)) (tcp : Int32) (tkd : Int32) (tsd : Int32) (tlm : Int32) (tfu : Int32) (ttb : Int32) (trb : Int32) (tgr : Int32) (tK : Nat → Int32) (tV : Nat → Int32) (tO : Nat → Int32) (tW : Nat → Int32) (x0 : Int32) (x1 : Int32) (hf : fX5_place tcp tkd tsd tfu ttb tK tV x0 x1 = some out) : gG p l e rmX5_place s m args below meth c D A 5 (MQ below (hQv D [(h0, .inr (5, [.ref h1, .ref h2, .ref h3, .ref h4, .int tcp, .int tkd, .int tsd, .int tlm, .int out.1, .int out.2.1, .int trb, .int tgr])), (h1, .inl (cI, 64, .inl out.2.2.1)), (h2, .inl (cI, 64, .inl out.2.2.2)), (h3, .inl (cI, 64, .inl tO)), (h4, .inl (cI, 64, .inl tW))] A) args s 0 0 A) 0 0 0 [(0, .ref h0), (1, .int x0), (2, .int x1)] [] [(h0, .inr (5, [.ref h1, .ref h2, .ref h3, .ref h4, .int tcp, .int tkd, .int tsd, .int tlm, .int tfu, .int ttb, .int trb, .int tgr])), (h1, .inl (cI, 64, .inl tK)), (h2, .inl (cI, 64, .inl tV)), (h3, .inl (cI, 64, .inl tO)), (h4, .inl (cI, 64, .inl tW))] := by
  unfold fX5_place at hf
  refine g_iconst C0 (v := (0 : Int32)) dX5_place_0 (by decide) ?_
  refine g_istore_n C0 (lv' := [(3, .int (0 : Int32)), (0, .ref h0), (1, .int x0), (2, .int x1)]) dX5_place_1 rfl (by decide) rfl ?_
  refine g_lv [1, 2, 3, 0] (lv' := [(0, .ref h0), (1, .int x0), (2, .int x1), (3, .int (0 : Int32))]) rfl ?_
  exact bX5_place_2 C0 h0 h1 h2 h3 h4 out tlm trb tgr tO tW  1000 tcp tkd tsd tfu ttb tK tV x0 x1 (0 : Int32) hf
theorem mX5_place (l : Launch) (D : va_G) (cB cC cI cO : ClassId)  (h0 h1 h2 h3 h4 : Nat) (tcp : Int32) (tkd : Int32) (tsd : Int32) (tlm : Int32) (tfu : Int32) (ttb : Int32) (trb : Int32) (tgr : Int32) (tK : Nat → Int32) (tV : Nat → Int32) (tO : Nat → Int32) (tW : Nat → Int32) (x0 : Int32) (x1 : Int32) (out : Int32 × Int32 × (Nat → Int32) × (Nat → Int32)) (hf : fX5_place tcp tkd tsd tfu ttb tK tV x0 x1 = some out) : ∀ sz, Met l yX5_place (ws_ yX5_place cX5_place 5 none) rmX5_place (va_Pc [.ref h0, .int x0, .int x1] (hPre D (hTy cB cC cI cO) [(h0, .inr (5, [.ref h1, .ref h2, .ref h3, .ref h4, .int tcp, .int tkd, .int tsd, .int tlm, .int tfu, .int ttb, .int trb, .int tgr])), (h1, .inl (cI, 64, .inl tK)), (h2, .inl (cI, 64, .inl tV)), (h3, .inl (cI, 64, .inl tO)), (h4, .inl (cI, 64, .inl tW))] sz)) (hQv D [(h0, .inr (5, [.ref h1, .ref h2, .ref h3, .ref h4, .int tcp, .int tkd, .int tsd, .int tlm, .int out.1, .int out.2.1, .int trb, .int tgr])), (h1, .inl (cI, 64, .inl out.2.2.1)), (h2, .inl (cI, 64, .inl out.2.2.2)), (h3, .inl (cI, 64, .inl tO)), (h4, .inl (cI, 64, .inl tW))] (va_A [(h0, .inr (5, [.ref h1, .ref h2, .ref h3, .ref h4, .int tcp, .int tkd, .int tsd, .int tlm, .int tfu, .int ttb, .int trb, .int tgr])), (h1, .inl (cI, 64, .inl tK)), (h2, .inl (cI, 64, .inl tV)), (h3, .inl (cI, 64, .inl tO)), (h4, .inl (cI, 64, .inl tW))] sz)) 0 0 (va_A [(h0, .inr (5, [.ref h1, .ref h2, .ref h3, .ref h4, .int tcp, .int tkd, .int tsd, .int tlm, .int tfu, .int ttb, .int trb, .int tgr])), (h1, .inl (cI, 64, .inl tK)), (h2, .inl (cI, 64, .inl tV)), (h3, .inl (cI, 64, .inl tO)), (h4, .inl (cI, 64, .inl tW))] sz) :=
  g_met (Qf := fun A => hQv D [(h0, .inr (5, [.ref h1, .ref h2, .ref h3, .ref h4, .int tcp, .int tkd, .int tsd, .int tlm, .int out.1, .int out.2.1, .int trb, .int tgr])), (h1, .inl (cI, 64, .inl out.2.2.1)), (h2, .inl (cI, 64, .inl out.2.2.2)), (h3, .inl (cI, 64, .inl tO)), (h4, .inl (cI, 64, .inl tW))] A) (by decide +kernel) (Nat.le_of_ble_eq_true rfl) rfl (fun C0 => bX5_place C0 h0 h1 h2 h3 h4 out tcp tkd tsd tlm tfu ttb trb tgr tK tV tO tW x0 x1 hf)
abbrev rmX5_rebuildWith : Room := { frames := 3, cells := 0, slots := 0, locals := 200 }
theorem hmX5_rebuildWith : hMV yX5_rebuildWith cX5_rebuildWith 3 none 1 := ⟨q_588, q_13, q_586, q_587, by decide, by decide, by decide +kernel⟩
theorem dX5_rebuildWith_0 : decode cX5_rebuildWith 0 = .ok (.aload_n 0, 1) := by decide +kernel
theorem dX5_rebuildWith_1 : decode cX5_rebuildWith 1 = .ok (.getfield 9, 3) := by decide +kernel
theorem dX5_rebuildWith_4 : decode cX5_rebuildWith 4 = .ok (.iconst 0, 1) := by decide +kernel
theorem dX5_rebuildWith_5 : decode cX5_rebuildWith 5 = .ok (.aload_n 0, 1) := by decide +kernel
theorem dX5_rebuildWith_6 : decode cX5_rebuildWith 6 = .ok (.getfield 18, 3) := by decide +kernel
theorem dX5_rebuildWith_9 : decode cX5_rebuildWith 9 = .ok (.iconst 0, 1) := by decide +kernel
theorem dX5_rebuildWith_10 : decode cX5_rebuildWith 10 = .ok (.bipush 64, 2) := by decide +kernel
theorem dX5_rebuildWith_12 : decode cX5_rebuildWith 12 = .ok (.invokestatic 40, 3) := by decide +kernel
theorem dX5_rebuildWith_15 : decode cX5_rebuildWith 15 = .ok (.aload_n 0, 1) := by decide +kernel
theorem dX5_rebuildWith_16 : decode cX5_rebuildWith 16 = .ok (.getfield 15, 3) := by decide +kernel
theorem dX5_rebuildWith_19 : decode cX5_rebuildWith 19 = .ok (.iconst 0, 1) := by decide +kernel
theorem dX5_rebuildWith_20 : decode cX5_rebuildWith 20 = .ok (.aload_n 0, 1) := by decide +kernel
theorem dX5_rebuildWith_21 : decode cX5_rebuildWith 21 = .ok (.getfield 21, 3) := by decide +kernel
theorem dX5_rebuildWith_24 : decode cX5_rebuildWith 24 = .ok (.iconst 0, 1) := by decide +kernel
theorem dX5_rebuildWith_25 : decode cX5_rebuildWith 25 = .ok (.bipush 64, 2) := by decide +kernel
theorem dX5_rebuildWith_27 : decode cX5_rebuildWith 27 = .ok (.invokestatic 40, 3) := by decide +kernel
theorem dX5_rebuildWith_30 : decode cX5_rebuildWith 30 = .ok (.aload_n 0, 1) := by decide +kernel
theorem dX5_rebuildWith_31 : decode cX5_rebuildWith 31 = .ok (.dup, 1) := by decide +kernel
theorem dX5_rebuildWith_32 : decode cX5_rebuildWith 32 = .ok (.getfield 55, 3) := by decide +kernel
theorem dX5_rebuildWith_35 : decode cX5_rebuildWith 35 = .ok (.iconst 1, 1) := by decide +kernel
theorem dX5_rebuildWith_36 : decode cX5_rebuildWith 36 = .ok (.iadd, 1) := by decide +kernel
theorem dX5_rebuildWith_37 : decode cX5_rebuildWith 37 = .ok (.putfield 55, 3) := by decide +kernel
theorem dX5_rebuildWith_40 : decode cX5_rebuildWith 40 = .ok (.iload_n 1, 1) := by decide +kernel
theorem dX5_rebuildWith_41 : decode cX5_rebuildWith 41 = .ok (.aload_n 0, 1) := by decide +kernel
theorem dX5_rebuildWith_42 : decode cX5_rebuildWith 42 = .ok (.getfield 31, 3) := by decide +kernel
theorem dX5_rebuildWith_45 : decode cX5_rebuildWith 45 = .ok (.if_icmp .le 13, 3) := by decide +kernel
theorem dX5_rebuildWith_48 : decode cX5_rebuildWith 48 = .ok (.aload_n 0, 1) := by decide +kernel
theorem dX5_rebuildWith_49 : decode cX5_rebuildWith 49 = .ok (.dup, 1) := by decide +kernel
theorem dX5_rebuildWith_50 : decode cX5_rebuildWith 50 = .ok (.getfield 58, 3) := by decide +kernel
theorem dX5_rebuildWith_53 : decode cX5_rebuildWith 53 = .ok (.iconst 1, 1) := by decide +kernel
theorem dX5_rebuildWith_54 : decode cX5_rebuildWith 54 = .ok (.iadd, 1) := by decide +kernel
theorem dX5_rebuildWith_55 : decode cX5_rebuildWith 55 = .ok (.putfield 58, 3) := by decide +kernel
theorem dX5_rebuildWith_58 : decode cX5_rebuildWith 58 = .ok (.aload_n 0, 1) := by decide +kernel
theorem dX5_rebuildWith_59 : decode cX5_rebuildWith 59 = .ok (.iload_n 1, 1) := by decide +kernel
theorem dX5_rebuildWith_60 : decode cX5_rebuildWith 60 = .ok (.invokevirtual 61, 3) := by decide +kernel
theorem dX5_rebuildWith_63 : decode cX5_rebuildWith 63 = .ok (.iconst 0, 1) := by decide +kernel
theorem dX5_rebuildWith_64 : decode cX5_rebuildWith 64 = .ok (.istore_n 2, 1) := by decide +kernel
theorem dX5_rebuildWith_65 : decode cX5_rebuildWith 65 = .ok (.iload_n 2, 1) := by decide +kernel
theorem dX5_rebuildWith_66 : decode cX5_rebuildWith 66 = .ok (.bipush 64, 2) := by decide +kernel
theorem dX5_rebuildWith_68 : decode cX5_rebuildWith 68 = .ok (.if_icmp .ge 34, 3) := by decide +kernel
theorem dX5_rebuildWith_71 : decode cX5_rebuildWith 71 = .ok (.aload_n 0, 1) := by decide +kernel
theorem dX5_rebuildWith_72 : decode cX5_rebuildWith 72 = .ok (.getfield 18, 3) := by decide +kernel
theorem dX5_rebuildWith_75 : decode cX5_rebuildWith 75 = .ok (.iload_n 2, 1) := by decide +kernel
theorem dX5_rebuildWith_76 : decode cX5_rebuildWith 76 = .ok (.iaload, 1) := by decide +kernel
theorem dX5_rebuildWith_77 : decode cX5_rebuildWith 77 = .ok (.ifCond .lt 19, 3) := by decide +kernel
theorem dX5_rebuildWith_80 : decode cX5_rebuildWith 80 = .ok (.aload_n 0, 1) := by decide +kernel
theorem dX5_rebuildWith_81 : decode cX5_rebuildWith 81 = .ok (.aload_n 0, 1) := by decide +kernel
theorem dX5_rebuildWith_82 : decode cX5_rebuildWith 82 = .ok (.getfield 18, 3) := by decide +kernel
theorem dX5_rebuildWith_85 : decode cX5_rebuildWith 85 = .ok (.iload_n 2, 1) := by decide +kernel
theorem dX5_rebuildWith_86 : decode cX5_rebuildWith 86 = .ok (.iaload, 1) := by decide +kernel
theorem dX5_rebuildWith_87 : decode cX5_rebuildWith 87 = .ok (.aload_n 0, 1) := by decide +kernel
theorem dX5_rebuildWith_88 : decode cX5_rebuildWith 88 = .ok (.getfield 21, 3) := by decide +kernel
theorem dX5_rebuildWith_91 : decode cX5_rebuildWith 91 = .ok (.iload_n 2, 1) := by decide +kernel
theorem dX5_rebuildWith_92 : decode cX5_rebuildWith 92 = .ok (.iaload, 1) := by decide +kernel
theorem dX5_rebuildWith_93 : decode cX5_rebuildWith 93 = .ok (.invokevirtual 121, 3) := by decide +kernel
theorem dX5_rebuildWith_96 : decode cX5_rebuildWith 96 = .ok (.iinc 2 1, 3) := by decide +kernel
theorem dX5_rebuildWith_99 : decode cX5_rebuildWith 99 = .ok (.goto (-34), 3) := by decide +kernel
theorem dX5_rebuildWith_102 : decode cX5_rebuildWith 102 = .ok (.return_, 1) := by decide +kernel
set_option maxHeartbeats 4000000 in
set_option maxRecDepth 100000 in
theorem bX5_rebuildWith_96 {p : Program} {l : Launch} {e : Env} {s : State} {m : MethodId} {args : Array Value} {below : List Frame} {meth : Method} {c : Code} {D : va_G} {cB cC cI cO : ClassId} {A : Nat → Prop} (C0 : gC RX5 cX5_rebuildWith 3 none p s m args meth c D (hTy cB cC cI cO) A) (h0 h1 h2 h3 h4 : Nat) (out : Int32 × Int32 × Int32 × Int32 × Int32 × (Nat → Int32) × (Nat → Int32) × (Nat → Int32) × (Nat → Int32)) (tlm : Int32) (rec65 : Int32 → Int32 → Int32 → Int32 → Int32 → Int32 → Int32 → (Nat → Int32) → (Nat → Int32) → (Nat → Int32) → (Nat → Int32) → Int32 → Option (Int32 × Int32 × Int32 × Int32 × Int32 × (Nat → Int32) × (Nat → Int32) × (Nat → Int32) × (Nat → Int32))) (hrec65 : ∀ (tcp : Int32) (tkd : Int32) (tsd : Int32) (tfu : Int32) (ttb : Int32) (trb : Int32) (tgr : Int32) (tK : Nat → Int32) (tV : Nat → Int32) (tO : Nat → Int32) (tW : Nat → Int32) (v2 : Int32), rec65 tcp tkd tsd tfu ttb trb tgr tK tV tO tW v2 = some out → gG p l e rmX5_rebuildWith s m args below meth c D A 3 (MQ below (hQv D [(h0, .inr (5, [.ref h1, .ref h2, .ref h3, .ref h4, .int out.1, .int tkd, .int tsd, .int tlm, .int out.2.1, .int out.2.2.1, .int out.2.2.2.1, .int out.2.2.2.2.1])), (h1, .inl (cI, 64, .inl out.2.2.2.2.2.1)), (h2, .inl (cI, 64, .inl out.2.2.2.2.2.2.1)), (h3, .inl (cI, 64, .inl out.2.2.2.2.2.2.2.1)), (h4, .inl (cI, 64, .inl out.2.2.2.2.2.2.2.2))] A) args s 0 0 A) 0 0 65 [(0, .ref h0), (2, .int v2)] [] [(h0, .inr (5, [.ref h1, .ref h2, .ref h3, .ref h4, .int tcp, .int tkd, .int tsd, .int tlm, .int tfu, .int ttb, .int trb, .int tgr])), (h1, .inl (cI, 64, .inl tK)), (h2, .inl (cI, 64, .inl tV)), (h3, .inl (cI, 64, .inl tO)), (h4, .inl (cI, 64, .inl tW))]) : ∀ (tcp : Int32) (tkd : Int32) (tsd : Int32) (tfu : Int32) (ttb : Int32) (trb : Int32) (tgr : Int32) (tK : Nat → Int32) (tV : Nat → Int32) (tO : Nat → Int32) (tW : Nat → Int32) (v2 : Int32), fX5_rebuildWith_96 rec65 tcp tkd tsd tfu ttb trb tgr tK tV tO tW v2 = some out → gG p l e rmX5_rebuildWith s m args below meth c D A 3 (MQ below (hQv D [(h0, .inr (5, [.ref h1, .ref h2, .ref h3, .ref h4, .int out.1, .int tkd, .int tsd, .int tlm, .int out.2.1, .int out.2.2.1, .int out.2.2.2.1, .int out.2.2.2.2.1])), (h1, .inl (cI, 64, .inl out.2.2.2.2.2.1)), (h2, .inl (cI, 64, .inl out.2.2.2.2.2.2.1)), (h3, .inl (cI, 64, .inl out.2.2.2.2.2.2.2.1)), (h4, .inl (cI, 64, .inl out.2.2.2.2.2.2.2.2))] A) args s 0 0 A) 0 0 96 [(0, .ref h0), (2, .int v2)] [] [(h0, .inr (5, [.ref h1, .ref h2, .ref h3, .ref h4, .int tcp, .int tkd, .int tsd, .int tlm, .int tfu, .int ttb, .int trb, .int tgr])), (h1, .inl (cI, 64, .inl tK)), (h2, .inl (cI, 64, .inl tV)), (h3, .inl (cI, 64, .inl tO)), (h4, .inl (cI, 64, .inl tW))] := by
  intro tcp tkd tsd tfu ttb trb tgr tK tV tO tW v2 hf
  unfold fX5_rebuildWith_96 at hf
  refine g_iinc C0 (lv' := [(2, .int (v2 + (1 : Int32))), (0, .ref h0)]) dX5_rebuildWith_96 1 rfl rfl (by decide) rfl ?_
  refine g_goto C0 (tgt := 65) dX5_rebuildWith_99 (by decide) ?_
  refine g_lv [1, 0] (lv' := [(0, .ref h0), (2, .int (v2 + (1 : Int32)))]) rfl ?_
  exact hrec65 tcp tkd tsd tfu ttb trb tgr tK tV tO tW (v2 + (1 : Int32)) hf
set_option maxHeartbeats 4000000 in
set_option maxRecDepth 100000 in
theorem bX5_rebuildWith_65 {p : Program} {l : Launch} {e : Env} {s : State} {m : MethodId} {args : Array Value} {below : List Frame} {meth : Method} {c : Code} {D : va_G} {cB cC cI cO : ClassId} {A : Nat → Prop} (C0 : gC RX5 cX5_rebuildWith 3 none p s m args meth c D (hTy cB cC cI cO) A) (h0 h1 h2 h3 h4 : Nat) (out : Int32 × Int32 × Int32 × Int32 × Int32 × (Nat → Int32) × (Nat → Int32) × (Nat → Int32) × (Nat → Int32)) (tlm : Int32)   : ∀ (n : Nat) (tcp : Int32) (tkd : Int32) (tsd : Int32) (tfu : Int32) (ttb : Int32) (trb : Int32) (tgr : Int32) (tK : Nat → Int32) (tV : Nat → Int32) (tO : Nat → Int32) (tW : Nat → Int32) (v2 : Int32), fX5_rebuildWith_65 n tcp tkd tsd tfu ttb trb tgr tK tV tO tW v2 = some out → gG p l e rmX5_rebuildWith s m args below meth c D A 3 (MQ below (hQv D [(h0, .inr (5, [.ref h1, .ref h2, .ref h3, .ref h4, .int out.1, .int tkd, .int tsd, .int tlm, .int out.2.1, .int out.2.2.1, .int out.2.2.2.1, .int out.2.2.2.2.1])), (h1, .inl (cI, 64, .inl out.2.2.2.2.2.1)), (h2, .inl (cI, 64, .inl out.2.2.2.2.2.2.1)), (h3, .inl (cI, 64, .inl out.2.2.2.2.2.2.2.1)), (h4, .inl (cI, 64, .inl out.2.2.2.2.2.2.2.2))] A) args s 0 0 A) 0 0 65 [(0, .ref h0), (2, .int v2)] [] [(h0, .inr (5, [.ref h1, .ref h2, .ref h3, .ref h4, .int tcp, .int tkd, .int tsd, .int tlm, .int tfu, .int ttb, .int trb, .int tgr])), (h1, .inl (cI, 64, .inl tK)), (h2, .inl (cI, 64, .inl tV)), (h3, .inl (cI, 64, .inl tO)), (h4, .inl (cI, 64, .inl tW))] := by
  intro n
  induction n with
  | zero => intro tcp tkd tsd tfu ttb trb tgr tK tV tO tW v2 hf; rw [fX5_rebuildWith_65] at hf; cases hf
  | succ n ih =>
    intro tcp tkd tsd tfu ttb trb tgr tK tV tO tW v2 hf
    rw [fX5_rebuildWith_65] at hf
    refine g_iload_n C0 dX5_rebuildWith_65 rfl 1 rfl ?_
    refine g_bipush C0 (v := (64 : Int32)) dX5_rebuildWith_66 (by decide) ?_
    refine g_icmp_ge C0 (tgt := 102) dX5_rebuildWith_68 (by decide) (fun c3 => ?_) (fun c3 => ?_)
    · rw [if_pos c3] at hf
      cases hf
      exact g_vret C0 dX5_rebuildWith_102 rfl
    · rw [if_neg c3] at hf
      refine g_aload_n C0 dX5_rebuildWith_71 rfl 0 rfl ?_
      refine g_get C0 hinX5 0 rfl rfl 2 (by decide) q_62 rfl dX5_rebuildWith_72 ?_
      refine g_iload_n C0 dX5_rebuildWith_75 rfl 1 rfl ?_
      obtain ⟨i4, hf⟩ := hl_ifS hf
      refine g_iald C0 3 1 rfl rfl i4 rfl dX5_rebuildWith_76 ?_
      refine g_if_lt C0 (tgt := 96) dX5_rebuildWith_77 (by decide) (fun c5 => ?_) (fun c5 => ?_)
      · rw [if_pos c5] at hf
        refine g_lv [0, 1] (lv' := [(0, .ref h0), (2, .int v2)]) rfl ?_
        exact bX5_rebuildWith_96 C0 h0 h1 h2 h3 h4 out tlm (fX5_rebuildWith_65 n) ih  tcp tkd tsd tfu ttb trb tgr tK tV tO tW v2 hf
      · rw [if_neg c5] at hf
        refine g_aload_n C0 dX5_rebuildWith_80 rfl 0 rfl ?_
        refine g_aload_n C0 dX5_rebuildWith_81 rfl 0 rfl ?_
        refine g_get C0 hinX5 0 rfl rfl 2 (by decide) q_62 rfl dX5_rebuildWith_82 ?_
        refine g_iload_n C0 dX5_rebuildWith_85 rfl 1 rfl ?_
        obtain ⟨i6, hf⟩ := hl_ifS hf
        refine g_iald C0 3 1 rfl rfl i6 rfl dX5_rebuildWith_86 ?_
        refine g_aload_n C0 dX5_rebuildWith_87 rfl 0 rfl ?_
        refine g_get C0 hinX5 0 rfl rfl 3 (by decide) q_63 rfl dX5_rebuildWith_88 ?_
        refine g_iload_n C0 dX5_rebuildWith_91 rfl 1 rfl ?_
        obtain ⟨i7, hf⟩ := hl_ifS hf
        refine g_iald C0 4 1 rfl rfl i7 rfl dX5_rebuildWith_92 ?_
        obtain ⟨r8, er8, hf⟩ := hl_bd hf
        try dsimp only at hf
        refine g_callVv C0 (ws' := [(h0, .inr (5, [.ref h1, .ref h2, .ref h3, .ref h4, .int tcp, .int tkd, .int tsd, .int tlm, .int r8.1, .int r8.2.1, .int trb, .int tgr])), (h1, .inl (cI, 64, .inl r8.2.2.1)), (h2, .inl (cI, 64, .inl r8.2.2.2)), (h3, .inl (cI, 64, .inl tO)), (h4, .inl (cI, 64, .inl tW))]) (mX5_place l D cB cC cI cO  h0 h1 h2 h3 h4 tcp tkd tsd tlm tfu ttb trb tgr tK tV tO tW (tO v2.toNatClampNeg) (tW v2.toNatClampNeg) r8 er8) hmX5_place q_592 ⟨Nat.le_of_ble_eq_true rfl, Nat.le_of_ble_eq_true rfl⟩ ⟨Nat.le_of_ble_eq_true rfl, Nat.le_of_ble_eq_true rfl⟩ rfl rfl [0, 1, 2, 3, 4] rfl rfl rfl rfl rfl 0 rfl rfl rfl (Nat.le_of_ble_eq_true rfl) dX5_rebuildWith_93 ?_
        refine g_lv [0, 1] (lv' := [(0, .ref h0), (2, .int v2)]) rfl ?_
        exact bX5_rebuildWith_96 C0 h0 h1 h2 h3 h4 out tlm (fX5_rebuildWith_65 n) ih  tcp tkd tsd r8.1 r8.2.1 trb tgr r8.2.2.1 r8.2.2.2 tO tW v2 hf
set_option maxHeartbeats 4000000 in
set_option maxRecDepth 100000 in
theorem bX5_rebuildWith_58 {p : Program} {l : Launch} {e : Env} {s : State} {m : MethodId} {args : Array Value} {below : List Frame} {meth : Method} {c : Code} {D : va_G} {cB cC cI cO : ClassId} {A : Nat → Prop} (C0 : gC RX5 cX5_rebuildWith 3 none p s m args meth c D (hTy cB cC cI cO) A) (h0 h1 h2 h3 h4 : Nat) (out : Int32 × Int32 × Int32 × Int32 × Int32 × (Nat → Int32) × (Nat → Int32) × (Nat → Int32) × (Nat → Int32)) (tlm : Int32)   : ∀ (tcp : Int32) (tkd : Int32) (tsd : Int32) (tfu : Int32) (ttb : Int32) (trb : Int32) (tgr : Int32) (tK : Nat → Int32) (tV : Nat → Int32) (tO : Nat → Int32) (tW : Nat → Int32) (v1 : Int32), fX5_rebuildWith_58 tcp tkd tsd tfu ttb trb tgr tK tV tO tW v1 = some out → gG p l e rmX5_rebuildWith s m args below meth c D A 3 (MQ below (hQv D [(h0, .inr (5, [.ref h1, .ref h2, .ref h3, .ref h4, .int out.1, .int tkd, .int tsd, .int tlm, .int out.2.1, .int out.2.2.1, .int out.2.2.2.1, .int out.2.2.2.2.1])), (h1, .inl (cI, 64, .inl out.2.2.2.2.2.1)), (h2, .inl (cI, 64, .inl out.2.2.2.2.2.2.1)), (h3, .inl (cI, 64, .inl out.2.2.2.2.2.2.2.1)), (h4, .inl (cI, 64, .inl out.2.2.2.2.2.2.2.2))] A) args s 0 0 A) 0 0 58 [(0, .ref h0), (1, .int v1)] [] [(h0, .inr (5, [.ref h1, .ref h2, .ref h3, .ref h4, .int tcp, .int tkd, .int tsd, .int tlm, .int tfu, .int ttb, .int trb, .int tgr])), (h1, .inl (cI, 64, .inl tK)), (h2, .inl (cI, 64, .inl tV)), (h3, .inl (cI, 64, .inl tO)), (h4, .inl (cI, 64, .inl tW))] := by
  intro tcp tkd tsd tfu ttb trb tgr tK tV tO tW v1 hf
  unfold fX5_rebuildWith_58 at hf
  refine g_aload_n C0 dX5_rebuildWith_58 rfl 0 rfl ?_
  refine g_iload_n C0 dX5_rebuildWith_59 rfl 1 rfl ?_
  obtain ⟨r2, er2, hf⟩ := hl_bd hf
  try dsimp only at hf
  refine g_callVv C0 (ws' := [(h0, .inr (5, [.ref h1, .ref h2, .ref h3, .ref h4, .int r2.1, .int tkd, .int tsd, .int tlm, .int r2.2.1, .int r2.2.2.1, .int trb, .int tgr])), (h1, .inl (cI, 64, .inl r2.2.2.2)), (h2, .inl (cI, 64, .inl tV)), (h3, .inl (cI, 64, .inl tO)), (h4, .inl (cI, 64, .inl tW))]) (mX5_empty l D cB cC cI cO  h0 h1 h2 h3 h4 tcp tkd tsd tlm tfu ttb trb tgr tK tV tO tW v1 r2 er2) hmX5_empty q_564 ⟨Nat.le_of_ble_eq_true rfl, Nat.le_of_ble_eq_true rfl⟩ ⟨Nat.le_of_ble_eq_true rfl, Nat.le_of_ble_eq_true rfl⟩ rfl rfl [0, 1, 2, 3, 4] rfl rfl rfl rfl rfl 0 rfl rfl rfl (Nat.le_of_ble_eq_true rfl) dX5_rebuildWith_60 ?_
  refine g_iconst C0 (v := (0 : Int32)) dX5_rebuildWith_63 (by decide) ?_
  refine g_istore_n C0 (lv' := [(2, .int (0 : Int32)), (0, .ref h0), (1, .int v1)]) dX5_rebuildWith_64 rfl (by decide) rfl ?_
  refine g_lv [1, 0] (lv' := [(0, .ref h0), (2, .int (0 : Int32))]) rfl ?_
  exact bX5_rebuildWith_65 C0 h0 h1 h2 h3 h4 out tlm  1000 r2.1 tkd tsd r2.2.1 r2.2.2.1 trb tgr r2.2.2.2 tV tO tW (0 : Int32) hf
set_option maxHeartbeats 4000000 in
set_option maxRecDepth 100000 in
theorem bX5_rebuildWith {p : Program} {l : Launch} {e : Env} {s : State} {m : MethodId} {args : Array Value} {below : List Frame} {meth : Method} {c : Code} {D : va_G} {cB cC cI cO : ClassId} {A : Nat → Prop} (C0 : gC RX5 cX5_rebuildWith 3 none p s m args meth c D (hTy cB cC cI cO) A) (h0 h1 h2 h3 h4 : Nat) (out : Int32 × Int32 × Int32 × Int32 × Int32 × (Nat → Int32) × (Nat → Int32) × (Nat → Int32) × (Nat → Int32)) (tcp : Int32) (tkd : Int32) (tsd : Int32) (tlm : Int32) (tfu : Int32) (ttb : Int32) (trb : Int32) (tgr : Int32) (tK : Nat → Int32) (tV : Nat → Int32) (tO : Nat → Int32) (tW : Nat → Int32) (x0 : Int32) (hf : fX5_rebuildWith tcp tkd tsd tfu ttb trb tgr tK tV tO tW x0 = some out) : gG p l e rmX5_rebuildWith s m args below meth c D A 3 (MQ below (hQv D [(h0, .inr (5, [.ref h1, .ref h2, .ref h3, .ref h4, .int out.1, .int tkd, .int tsd, .int tlm, .int out.2.1, .int out.2.2.1, .int out.2.2.2.1, .int out.2.2.2.2.1])), (h1, .inl (cI, 64, .inl out.2.2.2.2.2.1)), (h2, .inl (cI, 64, .inl out.2.2.2.2.2.2.1)), (h3, .inl (cI, 64, .inl out.2.2.2.2.2.2.2.1)), (h4, .inl (cI, 64, .inl out.2.2.2.2.2.2.2.2))] A) args s 0 0 A) 0 0 0 [(0, .ref h0), (1, .int x0)] [] [(h0, .inr (5, [.ref h1, .ref h2, .ref h3, .ref h4, .int tcp, .int tkd, .int tsd, .int tlm, .int tfu, .int ttb, .int trb, .int tgr])), (h1, .inl (cI, 64, .inl tK)), (h2, .inl (cI, 64, .inl tV)), (h3, .inl (cI, 64, .inl tO)), (h4, .inl (cI, 64, .inl tW))] := by
  unfold fX5_rebuildWith at hf
  refine g_aload_n C0 dX5_rebuildWith_0 rfl 0 rfl ?_
  refine g_get C0 hinX5 0 rfl rfl 0 (by decide) q_60 rfl dX5_rebuildWith_1 ?_
  refine g_iconst C0 (v := (0 : Int32)) dX5_rebuildWith_4 (by decide) ?_
  refine g_aload_n C0 dX5_rebuildWith_5 rfl 0 rfl ?_
  refine g_get C0 hinX5 0 rfl rfl 2 (by decide) q_62 rfl dX5_rebuildWith_6 ?_
  refine g_iconst C0 (v := (0 : Int32)) dX5_rebuildWith_9 (by decide) ?_
  refine g_bipush C0 (v := (64 : Int32)) dX5_rebuildWith_10 (by decide) ?_
  refine g_copy C0 (ws' := [(h0, .inr (5, [.ref h1, .ref h2, .ref h3, .ref h4, .int tcp, .int tkd, .int tsd, .int tlm, .int tfu, .int ttb, .int trb, .int tgr])), (h1, .inl (cI, 64, .inl tK)), (h2, .inl (cI, 64, .inl tV)), (h3, .inl (cI, 64, .inl (va_cpy tK tO 0 0 64))), (h4, .inl (cI, 64, .inl tW))]) (js := 0) (jd := 0) (jn := 64) q_589 q_591 q_590 q_23 1 3 1 1 rfl rfl rfl rfl (by decide) (by decide) (by decide) (by decide) (by decide) (by decide) (by decide) (by decide) (Nat.le_of_ble_eq_true rfl) (by decide) dX5_rebuildWith_12 rfl ?_
  refine g_aload_n C0 dX5_rebuildWith_15 rfl 0 rfl ?_
  refine g_get C0 hinX5 0 rfl rfl 1 (by decide) q_61 rfl dX5_rebuildWith_16 ?_
  refine g_iconst C0 (v := (0 : Int32)) dX5_rebuildWith_19 (by decide) ?_
  refine g_aload_n C0 dX5_rebuildWith_20 rfl 0 rfl ?_
  refine g_get C0 hinX5 0 rfl rfl 3 (by decide) q_63 rfl dX5_rebuildWith_21 ?_
  refine g_iconst C0 (v := (0 : Int32)) dX5_rebuildWith_24 (by decide) ?_
  refine g_bipush C0 (v := (64 : Int32)) dX5_rebuildWith_25 (by decide) ?_
  refine g_copy C0 (ws' := [(h0, .inr (5, [.ref h1, .ref h2, .ref h3, .ref h4, .int tcp, .int tkd, .int tsd, .int tlm, .int tfu, .int ttb, .int trb, .int tgr])), (h1, .inl (cI, 64, .inl tK)), (h2, .inl (cI, 64, .inl tV)), (h3, .inl (cI, 64, .inl (va_cpy tK tO 0 0 64))), (h4, .inl (cI, 64, .inl (va_cpy tV tW 0 0 64)))]) (js := 0) (jd := 0) (jn := 64) q_589 q_591 q_590 q_23 2 4 1 1 rfl rfl rfl rfl (by decide) (by decide) (by decide) (by decide) (by decide) (by decide) (by decide) (by decide) (Nat.le_of_ble_eq_true rfl) (by decide) dX5_rebuildWith_27 rfl ?_
  refine g_aload_n C0 dX5_rebuildWith_30 rfl 0 rfl ?_
  refine g_dup C0 dX5_rebuildWith_31 rfl ?_
  refine g_get C0 hinX5 0 rfl rfl 10 (by decide) q_77 rfl dX5_rebuildWith_32 ?_
  refine g_iconst C0 (v := (1 : Int32)) dX5_rebuildWith_35 (by decide) ?_
  refine g_iadd C0 dX5_rebuildWith_36 ?_
  refine g_put C0 (ws' := [(h0, .inr (5, [.ref h1, .ref h2, .ref h3, .ref h4, .int tcp, .int tkd, .int tsd, .int tlm, .int tfu, .int ttb, .int (trb + (1 : Int32)), .int tgr])), (h1, .inl (cI, 64, .inl tK)), (h2, .inl (cI, 64, .inl tV)), (h3, .inl (cI, 64, .inl (va_cpy tK tO 0 0 64))), (h4, .inl (cI, 64, .inl (va_cpy tV tW 0 0 64)))]) hinX5 0 rfl rfl 10 (by decide) q_77 tyX5_ok nmX5 rfl rfl rfl (Nat.le_of_ble_eq_true rfl) rfl dX5_rebuildWith_37 ?_
  refine g_iload_n C0 dX5_rebuildWith_40 rfl 1 rfl ?_
  refine g_aload_n C0 dX5_rebuildWith_41 rfl 0 rfl ?_
  refine g_get C0 hinX5 0 rfl rfl 4 (by decide) q_64 rfl dX5_rebuildWith_42 ?_
  refine g_icmp_le C0 (tgt := 58) dX5_rebuildWith_45 (by decide) (fun c1 => ?_) (fun c1 => ?_)
  · rw [if_pos c1] at hf
    refine g_lv [0, 1] (lv' := [(0, .ref h0), (1, .int x0)]) rfl ?_
    exact bX5_rebuildWith_58 C0 h0 h1 h2 h3 h4 out tlm  tcp tkd tsd tfu ttb (trb + (1 : Int32)) tgr tK tV (va_cpy tK tO 0 0 64) (va_cpy tV tW 0 0 64) x0 hf
  · rw [if_neg c1] at hf
    refine g_aload_n C0 dX5_rebuildWith_48 rfl 0 rfl ?_
    refine g_dup C0 dX5_rebuildWith_49 rfl ?_
    refine g_get C0 hinX5 0 rfl rfl 11 (by decide) q_79 rfl dX5_rebuildWith_50 ?_
    refine g_iconst C0 (v := (1 : Int32)) dX5_rebuildWith_53 (by decide) ?_
    refine g_iadd C0 dX5_rebuildWith_54 ?_
    refine g_put C0 (ws' := [(h0, .inr (5, [.ref h1, .ref h2, .ref h3, .ref h4, .int tcp, .int tkd, .int tsd, .int tlm, .int tfu, .int ttb, .int (trb + (1 : Int32)), .int (tgr + (1 : Int32))])), (h1, .inl (cI, 64, .inl tK)), (h2, .inl (cI, 64, .inl tV)), (h3, .inl (cI, 64, .inl (va_cpy tK tO 0 0 64))), (h4, .inl (cI, 64, .inl (va_cpy tV tW 0 0 64)))]) hinX5 0 rfl rfl 11 (by decide) q_79 tyX5_ok nmX5 rfl rfl rfl (Nat.le_of_ble_eq_true rfl) rfl dX5_rebuildWith_55 ?_
    refine g_lv [0, 1] (lv' := [(0, .ref h0), (1, .int x0)]) rfl ?_
    exact bX5_rebuildWith_58 C0 h0 h1 h2 h3 h4 out tlm  tcp tkd tsd tfu ttb (trb + (1 : Int32)) (tgr + (1 : Int32)) tK tV (va_cpy tK tO 0 0 64) (va_cpy tV tW 0 0 64) x0 hf
theorem mX5_rebuildWith (l : Launch) (D : va_G) (cB cC cI cO : ClassId)  (h0 h1 h2 h3 h4 : Nat) (tcp : Int32) (tkd : Int32) (tsd : Int32) (tlm : Int32) (tfu : Int32) (ttb : Int32) (trb : Int32) (tgr : Int32) (tK : Nat → Int32) (tV : Nat → Int32) (tO : Nat → Int32) (tW : Nat → Int32) (x0 : Int32) (out : Int32 × Int32 × Int32 × Int32 × Int32 × (Nat → Int32) × (Nat → Int32) × (Nat → Int32) × (Nat → Int32)) (hf : fX5_rebuildWith tcp tkd tsd tfu ttb trb tgr tK tV tO tW x0 = some out) : ∀ sz, Met l yX5_rebuildWith (ws_ yX5_rebuildWith cX5_rebuildWith 3 none) rmX5_rebuildWith (va_Pc [.ref h0, .int x0] (hPre D (hTy cB cC cI cO) [(h0, .inr (5, [.ref h1, .ref h2, .ref h3, .ref h4, .int tcp, .int tkd, .int tsd, .int tlm, .int tfu, .int ttb, .int trb, .int tgr])), (h1, .inl (cI, 64, .inl tK)), (h2, .inl (cI, 64, .inl tV)), (h3, .inl (cI, 64, .inl tO)), (h4, .inl (cI, 64, .inl tW))] sz)) (hQv D [(h0, .inr (5, [.ref h1, .ref h2, .ref h3, .ref h4, .int out.1, .int tkd, .int tsd, .int tlm, .int out.2.1, .int out.2.2.1, .int out.2.2.2.1, .int out.2.2.2.2.1])), (h1, .inl (cI, 64, .inl out.2.2.2.2.2.1)), (h2, .inl (cI, 64, .inl out.2.2.2.2.2.2.1)), (h3, .inl (cI, 64, .inl out.2.2.2.2.2.2.2.1)), (h4, .inl (cI, 64, .inl out.2.2.2.2.2.2.2.2))] (va_A [(h0, .inr (5, [.ref h1, .ref h2, .ref h3, .ref h4, .int tcp, .int tkd, .int tsd, .int tlm, .int tfu, .int ttb, .int trb, .int tgr])), (h1, .inl (cI, 64, .inl tK)), (h2, .inl (cI, 64, .inl tV)), (h3, .inl (cI, 64, .inl tO)), (h4, .inl (cI, 64, .inl tW))] sz)) 0 0 (va_A [(h0, .inr (5, [.ref h1, .ref h2, .ref h3, .ref h4, .int tcp, .int tkd, .int tsd, .int tlm, .int tfu, .int ttb, .int trb, .int tgr])), (h1, .inl (cI, 64, .inl tK)), (h2, .inl (cI, 64, .inl tV)), (h3, .inl (cI, 64, .inl tO)), (h4, .inl (cI, 64, .inl tW))] sz) :=
  g_met (Qf := fun A => hQv D [(h0, .inr (5, [.ref h1, .ref h2, .ref h3, .ref h4, .int out.1, .int tkd, .int tsd, .int tlm, .int out.2.1, .int out.2.2.1, .int out.2.2.2.1, .int out.2.2.2.2.1])), (h1, .inl (cI, 64, .inl out.2.2.2.2.2.1)), (h2, .inl (cI, 64, .inl out.2.2.2.2.2.2.1)), (h3, .inl (cI, 64, .inl out.2.2.2.2.2.2.2.1)), (h4, .inl (cI, 64, .inl out.2.2.2.2.2.2.2.2))] A) (by decide +kernel) (Nat.le_of_ble_eq_true rfl) rfl (fun C0 => bX5_rebuildWith C0 h0 h1 h2 h3 h4 out tcp tkd tsd tlm tfu ttb trb tgr tK tV tO tW x0 hf)
abbrev rmX5_enter : Room := { frames := 4, cells := 0, slots := 0, locals := 222 }
theorem hmX5_enter : hMV yX5_enter cX5_enter 4 (some .boolean) 2 := ⟨q_571, q_13, q_569, q_570, by decide, by decide, by decide +kernel⟩
theorem dX5_enter_0 : decode cX5_enter 0 = .ok (.aload_n 0, 1) := by decide +kernel
theorem dX5_enter_1 : decode cX5_enter 1 = .ok (.iload_n 1, 1) := by decide +kernel
theorem dX5_enter_2 : decode cX5_enter 2 = .ok (.invokevirtual 112, 3) := by decide +kernel
theorem dX5_enter_5 : decode cX5_enter 5 = .ok (.istore_n 3, 1) := by decide +kernel
theorem dX5_enter_6 : decode cX5_enter 6 = .ok (.iload_n 3, 1) := by decide +kernel
theorem dX5_enter_7 : decode cX5_enter 7 = .ok (.invokestatic 65, 3) := by decide +kernel
theorem dX5_enter_10 : decode cX5_enter 10 = .ok (.ifCond .eq 12, 3) := by decide +kernel
theorem dX5_enter_13 : decode cX5_enter 13 = .ok (.aload_n 0, 1) := by decide +kernel
theorem dX5_enter_14 : decode cX5_enter 14 = .ok (.getfield 15, 3) := by decide +kernel
theorem dX5_enter_17 : decode cX5_enter 17 = .ok (.iload_n 3, 1) := by decide +kernel
theorem dX5_enter_18 : decode cX5_enter 18 = .ok (.iload_n 2, 1) := by decide +kernel
theorem dX5_enter_19 : decode cX5_enter 19 = .ok (.iastore, 1) := by decide +kernel
theorem dX5_enter_20 : decode cX5_enter 20 = .ok (.iconst 1, 1) := by decide +kernel
theorem dX5_enter_21 : decode cX5_enter 21 = .ok (.ireturn, 1) := by decide +kernel
theorem dX5_enter_22 : decode cX5_enter 22 = .ok (.aload_n 0, 1) := by decide +kernel
theorem dX5_enter_23 : decode cX5_enter 23 = .ok (.invokevirtual 115, 3) := by decide +kernel
theorem dX5_enter_26 : decode cX5_enter 26 = .ok (.ifCond .ne 5, 3) := by decide +kernel
theorem dX5_enter_29 : decode cX5_enter 29 = .ok (.iconst 0, 1) := by decide +kernel
theorem dX5_enter_30 : decode cX5_enter 30 = .ok (.ireturn, 1) := by decide +kernel
theorem dX5_enter_31 : decode cX5_enter 31 = .ok (.aload_n 0, 1) := by decide +kernel
theorem dX5_enter_32 : decode cX5_enter 32 = .ok (.invokevirtual 104, 3) := by decide +kernel
theorem dX5_enter_35 : decode cX5_enter 35 = .ok (.ifCond .eq 11, 3) := by decide +kernel
theorem dX5_enter_38 : decode cX5_enter 38 = .ok (.aload_n 0, 1) := by decide +kernel
theorem dX5_enter_39 : decode cX5_enter 39 = .ok (.aload_n 0, 1) := by decide +kernel
theorem dX5_enter_40 : decode cX5_enter 40 = .ok (.invokevirtual 108, 3) := by decide +kernel
theorem dX5_enter_43 : decode cX5_enter 43 = .ok (.invokevirtual 118, 3) := by decide +kernel
theorem dX5_enter_46 : decode cX5_enter 46 = .ok (.aload_n 0, 1) := by decide +kernel
theorem dX5_enter_47 : decode cX5_enter 47 = .ok (.iload_n 1, 1) := by decide +kernel
theorem dX5_enter_48 : decode cX5_enter 48 = .ok (.iload_n 2, 1) := by decide +kernel
theorem dX5_enter_49 : decode cX5_enter 49 = .ok (.invokevirtual 121, 3) := by decide +kernel
theorem dX5_enter_52 : decode cX5_enter 52 = .ok (.iconst 1, 1) := by decide +kernel
theorem dX5_enter_53 : decode cX5_enter 53 = .ok (.ireturn, 1) := by decide +kernel
set_option maxHeartbeats 4000000 in
set_option maxRecDepth 100000 in
theorem bX5_enter {p : Program} {l : Launch} {e : Env} {s : State} {m : MethodId} {args : Array Value} {below : List Frame} {meth : Method} {c : Code} {D : va_G} {cB cC cI cO : ClassId} {A : Nat → Prop} (C0 : gC RX5 cX5_enter 4 (some .boolean) p s m args meth c D (hTy cB cC cI cO) A) (h0 h1 h2 h3 h4 : Nat) (out : Int32 × Int32 × Int32 × Int32 × Int32 × Int32 × (Nat → Int32) × (Nat → Int32) × (Nat → Int32) × (Nat → Int32)) (tcp : Int32) (tkd : Int32) (tsd : Int32) (tlm : Int32) (tfu : Int32) (ttb : Int32) (trb : Int32) (tgr : Int32) (tK : Nat → Int32) (tV : Nat → Int32) (tO : Nat → Int32) (tW : Nat → Int32) (x0 : Int32) (x1 : Int32) (hf : fX5_enter tcp tkd tsd tlm tfu ttb trb tgr tK tV tO tW x0 x1 = some out) : gG p l e rmX5_enter s m args below meth c D A 4 (MQ below (hQi D [(h0, .inr (5, [.ref h1, .ref h2, .ref h3, .ref h4, .int out.2.1, .int tkd, .int tsd, .int tlm, .int out.2.2.1, .int out.2.2.2.1, .int out.2.2.2.2.1, .int out.2.2.2.2.2.1])), (h1, .inl (cI, 64, .inl out.2.2.2.2.2.2.1)), (h2, .inl (cI, 64, .inl out.2.2.2.2.2.2.2.1)), (h3, .inl (cI, 64, .inl out.2.2.2.2.2.2.2.2.1)), (h4, .inl (cI, 64, .inl out.2.2.2.2.2.2.2.2.2))] out.1 A) args s 0 0 A) 0 0 0 [(0, .ref h0), (1, .int x0), (2, .int x1)] [] [(h0, .inr (5, [.ref h1, .ref h2, .ref h3, .ref h4, .int tcp, .int tkd, .int tsd, .int tlm, .int tfu, .int ttb, .int trb, .int tgr])), (h1, .inl (cI, 64, .inl tK)), (h2, .inl (cI, 64, .inl tV)), (h3, .inl (cI, 64, .inl tO)), (h4, .inl (cI, 64, .inl tW))] := by
  unfold fX5_enter at hf
  refine g_aload_n C0 dX5_enter_0 rfl 0 rfl ?_
  refine g_iload_n C0 dX5_enter_1 rfl 1 rfl ?_
  obtain ⟨r1, er1, hf⟩ := hl_bd hf
  try dsimp only at hf
  refine g_callVi C0 (ws' := [(h0, .inr (5, [.ref h1, .ref h2, .ref h3, .ref h4, .int tcp, .int tkd, .int tsd, .int tlm, .int tfu, .int ttb, .int trb, .int tgr])), (h1, .inl (cI, 64, .inl tK)), (h2, .inl (cI, 64, .inl tV)), (h3, .inl (cI, 64, .inl tO)), (h4, .inl (cI, 64, .inl tW))]) (mX5_slotHolding l D cB cC cI cO  h0 h1 h2 h3 h4 tcp tkd tsd tlm tfu ttb trb tgr tK tV tO tW x0 r1 er1) hmX5_slotHolding q_572 ⟨Nat.le_of_ble_eq_true rfl, Nat.le_of_ble_eq_true rfl⟩ ⟨Nat.le_of_ble_eq_true rfl, Nat.le_of_ble_eq_true rfl⟩ rfl rfl [0, 1, 2, 3, 4] rfl rfl rfl rfl rfl 0 rfl rfl rfl (Nat.le_of_ble_eq_true rfl) dX5_enter_2 ?_
  refine g_istore_n C0 (lv' := [(3, .int r1), (0, .ref h0), (1, .int x0), (2, .int x1)]) dX5_enter_5 rfl (by decide) rfl ?_
  refine g_iload_n C0 dX5_enter_6 rfl 0 rfl ?_
  obtain ⟨r2, er2, hf⟩ := hl_bd hf
  try dsimp only at hf
  refine g_callSi C0 (ws' := [(h0, .inr (5, [.ref h1, .ref h2, .ref h3, .ref h4, .int tcp, .int tkd, .int tsd, .int tlm, .int tfu, .int ttb, .int trb, .int tgr])), (h1, .inl (cI, 64, .inl tK)), (h2, .inl (cI, 64, .inl tV)), (h3, .inl (cI, 64, .inl tO)), (h4, .inl (cI, 64, .inl tW))]) (mX5_isInRows l D cB cC cI cO    r1 r2 er2) hmX5_isInRows q_278 ⟨Nat.le_of_ble_eq_true rfl, Nat.le_of_ble_eq_true rfl⟩ ⟨Nat.le_of_ble_eq_true rfl, Nat.le_of_ble_eq_true rfl⟩ rfl rfl [] rfl rfl rfl rfl rfl rfl (Nat.le_of_ble_eq_true rfl) dX5_enter_7 ?_
  refine g_if_eq C0 (tgt := 22) dX5_enter_10 (by decide) (fun c3 => ?_) (fun c3 => ?_)
  · rw [if_pos c3] at hf
    refine g_aload_n C0 dX5_enter_22 rfl 1 rfl ?_
    obtain ⟨r4, er4, hf⟩ := hl_bd hf
    try dsimp only at hf
    refine g_callVi C0 (ws' := [(h0, .inr (5, [.ref h1, .ref h2, .ref h3, .ref h4, .int tcp, .int tkd, .int tsd, .int tlm, .int tfu, .int ttb, .int trb, .int tgr])), (h1, .inl (cI, 64, .inl tK)), (h2, .inl (cI, 64, .inl tV)), (h3, .inl (cI, 64, .inl tO)), (h4, .inl (cI, 64, .inl tW))]) (mX5_hasRoom l D cB cC cI cO  h0 h1 h2 h3 h4 tcp tkd tsd tlm tfu ttb trb tgr tK tV tO tW  r4 er4) hmX5_hasRoom q_573 ⟨Nat.le_of_ble_eq_true rfl, Nat.le_of_ble_eq_true rfl⟩ ⟨Nat.le_of_ble_eq_true rfl, Nat.le_of_ble_eq_true rfl⟩ rfl rfl [0, 1, 2, 3, 4] rfl rfl rfl rfl rfl 0 rfl rfl rfl (Nat.le_of_ble_eq_true rfl) dX5_enter_23 ?_
    refine g_if_ne C0 (tgt := 31) dX5_enter_26 (by decide) (fun c5 => ?_) (fun c5 => ?_)
    · rw [if_neg c5] at hf
      refine g_aload_n C0 dX5_enter_31 rfl 1 rfl ?_
      obtain ⟨r6, er6, hf⟩ := hl_bd hf
      try dsimp only at hf
      refine g_callVi C0 (ws' := [(h0, .inr (5, [.ref h1, .ref h2, .ref h3, .ref h4, .int tcp, .int tkd, .int tsd, .int tlm, .int tfu, .int ttb, .int trb, .int tgr])), (h1, .inl (cI, 64, .inl tK)), (h2, .inl (cI, 64, .inl tV)), (h3, .inl (cI, 64, .inl tO)), (h4, .inl (cI, 64, .inl tW))]) (mX5_needsRebuild l D cB cC cI cO  h0 h1 h2 h3 h4 tcp tkd tsd tlm tfu ttb trb tgr tK tV tO tW  r6 er6) hmX5_needsRebuild q_577 ⟨Nat.le_of_ble_eq_true rfl, Nat.le_of_ble_eq_true rfl⟩ ⟨Nat.le_of_ble_eq_true rfl, Nat.le_of_ble_eq_true rfl⟩ rfl rfl [0, 1, 2, 3, 4] rfl rfl rfl rfl rfl 0 rfl rfl rfl (Nat.le_of_ble_eq_true rfl) dX5_enter_32 ?_
      refine g_if_eq C0 (tgt := 46) dX5_enter_35 (by decide) (fun c7 => ?_) (fun c7 => ?_)
      · rw [if_pos c7] at hf
        refine g_aload_n C0 dX5_enter_46 rfl 1 rfl ?_
        refine g_iload_n C0 dX5_enter_47 rfl 2 rfl ?_
        refine g_iload_n C0 dX5_enter_48 rfl 3 rfl ?_
        obtain ⟨r8, er8, hf⟩ := hl_bd hf
        try dsimp only at hf
        refine g_callVv C0 (ws' := [(h0, .inr (5, [.ref h1, .ref h2, .ref h3, .ref h4, .int tcp, .int tkd, .int tsd, .int tlm, .int r8.1, .int r8.2.1, .int trb, .int tgr])), (h1, .inl (cI, 64, .inl r8.2.2.1)), (h2, .inl (cI, 64, .inl r8.2.2.2)), (h3, .inl (cI, 64, .inl tO)), (h4, .inl (cI, 64, .inl tW))]) (mX5_place l D cB cC cI cO  h0 h1 h2 h3 h4 tcp tkd tsd tlm tfu ttb trb tgr tK tV tO tW x0 x1 r8 er8) hmX5_place q_592 ⟨Nat.le_of_ble_eq_true rfl, Nat.le_of_ble_eq_true rfl⟩ ⟨Nat.le_of_ble_eq_true rfl, Nat.le_of_ble_eq_true rfl⟩ rfl rfl [0, 1, 2, 3, 4] rfl rfl rfl rfl rfl 0 rfl rfl rfl (Nat.le_of_ble_eq_true rfl) dX5_enter_49 ?_
        refine g_iconst C0 (v := (1 : Int32)) dX5_enter_52 (by decide) ?_
        cases hf
        exact g_iret C0 rfl dX5_enter_53 rfl rfl
      · rw [if_neg c7] at hf
        refine g_aload_n C0 dX5_enter_38 rfl 1 rfl ?_
        refine g_aload_n C0 dX5_enter_39 rfl 1 rfl ?_
        obtain ⟨r9, er9, hf⟩ := hl_bd hf
        try dsimp only at hf
        refine g_callVi C0 (ws' := [(h0, .inr (5, [.ref h1, .ref h2, .ref h3, .ref h4, .int tcp, .int tkd, .int tsd, .int tlm, .int tfu, .int ttb, .int trb, .int tgr])), (h1, .inl (cI, 64, .inl tK)), (h2, .inl (cI, 64, .inl tV)), (h3, .inl (cI, 64, .inl tO)), (h4, .inl (cI, 64, .inl tW))]) (mX5_nextCapacity l D cB cC cI cO  h0 h1 h2 h3 h4 tcp tkd tsd tlm tfu ttb trb tgr tK tV tO tW  r9 er9) hmX5_nextCapacity q_578 ⟨Nat.le_of_ble_eq_true rfl, Nat.le_of_ble_eq_true rfl⟩ ⟨Nat.le_of_ble_eq_true rfl, Nat.le_of_ble_eq_true rfl⟩ rfl rfl [0, 1, 2, 3, 4] rfl rfl rfl rfl rfl 0 rfl rfl rfl (Nat.le_of_ble_eq_true rfl) dX5_enter_40 ?_
        obtain ⟨r10, er10, hf⟩ := hl_bd hf
        try dsimp only at hf
        refine g_callVv C0 (ws' := [(h0, .inr (5, [.ref h1, .ref h2, .ref h3, .ref h4, .int r10.1, .int tkd, .int tsd, .int tlm, .int r10.2.1, .int r10.2.2.1, .int r10.2.2.2.1, .int r10.2.2.2.2.1])), (h1, .inl (cI, 64, .inl r10.2.2.2.2.2.1)), (h2, .inl (cI, 64, .inl r10.2.2.2.2.2.2.1)), (h3, .inl (cI, 64, .inl r10.2.2.2.2.2.2.2.1)), (h4, .inl (cI, 64, .inl r10.2.2.2.2.2.2.2.2))]) (mX5_rebuildWith l D cB cC cI cO  h0 h1 h2 h3 h4 tcp tkd tsd tlm tfu ttb trb tgr tK tV tO tW r9 r10 er10) hmX5_rebuildWith q_585 ⟨Nat.le_of_ble_eq_true rfl, Nat.le_of_ble_eq_true rfl⟩ ⟨Nat.le_of_ble_eq_true rfl, Nat.le_of_ble_eq_true rfl⟩ rfl rfl [0, 1, 2, 3, 4] rfl rfl rfl rfl rfl 0 rfl rfl rfl (Nat.le_of_ble_eq_true rfl) dX5_enter_43 ?_
        refine g_aload_n C0 dX5_enter_46 rfl 1 rfl ?_
        refine g_iload_n C0 dX5_enter_47 rfl 2 rfl ?_
        refine g_iload_n C0 dX5_enter_48 rfl 3 rfl ?_
        obtain ⟨r11, er11, hf⟩ := hl_bd hf
        try dsimp only at hf
        refine g_callVv C0 (ws' := [(h0, .inr (5, [.ref h1, .ref h2, .ref h3, .ref h4, .int r10.1, .int tkd, .int tsd, .int tlm, .int r11.1, .int r11.2.1, .int r10.2.2.2.1, .int r10.2.2.2.2.1])), (h1, .inl (cI, 64, .inl r11.2.2.1)), (h2, .inl (cI, 64, .inl r11.2.2.2)), (h3, .inl (cI, 64, .inl r10.2.2.2.2.2.2.2.1)), (h4, .inl (cI, 64, .inl r10.2.2.2.2.2.2.2.2))]) (mX5_place l D cB cC cI cO  h0 h1 h2 h3 h4 r10.1 tkd tsd tlm r10.2.1 r10.2.2.1 r10.2.2.2.1 r10.2.2.2.2.1 r10.2.2.2.2.2.1 r10.2.2.2.2.2.2.1 r10.2.2.2.2.2.2.2.1 r10.2.2.2.2.2.2.2.2 x0 x1 r11 er11) hmX5_place q_592 ⟨Nat.le_of_ble_eq_true rfl, Nat.le_of_ble_eq_true rfl⟩ ⟨Nat.le_of_ble_eq_true rfl, Nat.le_of_ble_eq_true rfl⟩ rfl rfl [0, 1, 2, 3, 4] rfl rfl rfl rfl rfl 0 rfl rfl rfl (Nat.le_of_ble_eq_true rfl) dX5_enter_49 ?_
        refine g_iconst C0 (v := (1 : Int32)) dX5_enter_52 (by decide) ?_
        cases hf
        exact g_iret C0 rfl dX5_enter_53 rfl rfl
    · rw [if_pos c5] at hf
      refine g_iconst C0 (v := (0 : Int32)) dX5_enter_29 (by decide) ?_
      cases hf
      exact g_iret C0 rfl dX5_enter_30 rfl rfl
  · rw [if_neg c3] at hf
    refine g_aload_n C0 dX5_enter_13 rfl 1 rfl ?_
    refine g_get C0 hinX5 0 rfl rfl 1 (by decide) q_61 rfl dX5_enter_14 ?_
    refine g_iload_n C0 dX5_enter_17 rfl 0 rfl ?_
    refine g_iload_n C0 dX5_enter_18 rfl 3 rfl ?_
    obtain ⟨i12, hf⟩ := hl_ifS hf
    refine g_iast C0 (ws' := [(h0, .inr (5, [.ref h1, .ref h2, .ref h3, .ref h4, .int tcp, .int tkd, .int tsd, .int tlm, .int tfu, .int ttb, .int trb, .int tgr])), (h1, .inl (cI, 64, .inl tK)), (h2, .inl (cI, 64, .inl (upd tV (r1.toNatClampNeg) x1))), (h3, .inl (cI, 64, .inl tO)), (h4, .inl (cI, 64, .inl tW))]) 2 1 rfl rfl i12 rfl dX5_enter_19 rfl ?_
    refine g_iconst C0 (v := (1 : Int32)) dX5_enter_20 (by decide) ?_
    cases hf
    exact g_iret C0 rfl dX5_enter_21 rfl rfl
theorem mX5_enter (l : Launch) (D : va_G) (cB cC cI cO : ClassId)  (h0 h1 h2 h3 h4 : Nat) (tcp : Int32) (tkd : Int32) (tsd : Int32) (tlm : Int32) (tfu : Int32) (ttb : Int32) (trb : Int32) (tgr : Int32) (tK : Nat → Int32) (tV : Nat → Int32) (tO : Nat → Int32) (tW : Nat → Int32) (x0 : Int32) (x1 : Int32) (out : Int32 × Int32 × Int32 × Int32 × Int32 × Int32 × (Nat → Int32) × (Nat → Int32) × (Nat → Int32) × (Nat → Int32)) (hf : fX5_enter tcp tkd tsd tlm tfu ttb trb tgr tK tV tO tW x0 x1 = some out) : ∀ sz, Met l yX5_enter (ws_ yX5_enter cX5_enter 4 (some .boolean)) rmX5_enter (va_Pc [.ref h0, .int x0, .int x1] (hPre D (hTy cB cC cI cO) [(h0, .inr (5, [.ref h1, .ref h2, .ref h3, .ref h4, .int tcp, .int tkd, .int tsd, .int tlm, .int tfu, .int ttb, .int trb, .int tgr])), (h1, .inl (cI, 64, .inl tK)), (h2, .inl (cI, 64, .inl tV)), (h3, .inl (cI, 64, .inl tO)), (h4, .inl (cI, 64, .inl tW))] sz)) (hQi D [(h0, .inr (5, [.ref h1, .ref h2, .ref h3, .ref h4, .int out.2.1, .int tkd, .int tsd, .int tlm, .int out.2.2.1, .int out.2.2.2.1, .int out.2.2.2.2.1, .int out.2.2.2.2.2.1])), (h1, .inl (cI, 64, .inl out.2.2.2.2.2.2.1)), (h2, .inl (cI, 64, .inl out.2.2.2.2.2.2.2.1)), (h3, .inl (cI, 64, .inl out.2.2.2.2.2.2.2.2.1)), (h4, .inl (cI, 64, .inl out.2.2.2.2.2.2.2.2.2))] out.1 (va_A [(h0, .inr (5, [.ref h1, .ref h2, .ref h3, .ref h4, .int tcp, .int tkd, .int tsd, .int tlm, .int tfu, .int ttb, .int trb, .int tgr])), (h1, .inl (cI, 64, .inl tK)), (h2, .inl (cI, 64, .inl tV)), (h3, .inl (cI, 64, .inl tO)), (h4, .inl (cI, 64, .inl tW))] sz)) 0 0 (va_A [(h0, .inr (5, [.ref h1, .ref h2, .ref h3, .ref h4, .int tcp, .int tkd, .int tsd, .int tlm, .int tfu, .int ttb, .int trb, .int tgr])), (h1, .inl (cI, 64, .inl tK)), (h2, .inl (cI, 64, .inl tV)), (h3, .inl (cI, 64, .inl tO)), (h4, .inl (cI, 64, .inl tW))] sz) :=
  g_met (Qf := fun A => hQi D [(h0, .inr (5, [.ref h1, .ref h2, .ref h3, .ref h4, .int out.2.1, .int tkd, .int tsd, .int tlm, .int out.2.2.1, .int out.2.2.2.1, .int out.2.2.2.2.1, .int out.2.2.2.2.2.1])), (h1, .inl (cI, 64, .inl out.2.2.2.2.2.2.1)), (h2, .inl (cI, 64, .inl out.2.2.2.2.2.2.2.1)), (h3, .inl (cI, 64, .inl out.2.2.2.2.2.2.2.2.1)), (h4, .inl (cI, 64, .inl out.2.2.2.2.2.2.2.2.2))] out.1 A) (by decide +kernel) (Nat.le_of_ble_eq_true rfl) rfl (fun C0 => bX5_enter C0 h0 h1 h2 h3 h4 out tcp tkd tsd tlm tfu ttb trb tgr tK tV tO tW x0 x1 hf)
abbrev rmX5_bury : Room := { frames := 1, cells := 0, slots := 0, locals := 20 }
theorem hmX5_bury : hMV yX5_bury cX5_bury 2 (some .boolean) 1 := ⟨q_819, q_13, q_817, q_818, by decide, by decide, by decide +kernel⟩
theorem dX5_bury_0 : decode cX5_bury 0 = .ok (.iload_n 1, 1) := by decide +kernel
theorem dX5_bury_1 : decode cX5_bury 1 = .ok (.invokestatic 65, 3) := by decide +kernel
theorem dX5_bury_4 : decode cX5_bury 4 = .ok (.ifCond .eq 12, 3) := by decide +kernel
theorem dX5_bury_7 : decode cX5_bury 7 = .ok (.aload_n 0, 1) := by decide +kernel
theorem dX5_bury_8 : decode cX5_bury 8 = .ok (.getfield 9, 3) := by decide +kernel
theorem dX5_bury_11 : decode cX5_bury 11 = .ok (.iload_n 1, 1) := by decide +kernel
theorem dX5_bury_12 : decode cX5_bury 12 = .ok (.iaload, 1) := by decide +kernel
theorem dX5_bury_13 : decode cX5_bury 13 = .ok (.ifCond .ge 5, 3) := by decide +kernel
theorem dX5_bury_16 : decode cX5_bury 16 = .ok (.iconst 0, 1) := by decide +kernel
theorem dX5_bury_17 : decode cX5_bury 17 = .ok (.ireturn, 1) := by decide +kernel
theorem dX5_bury_18 : decode cX5_bury 18 = .ok (.aload_n 0, 1) := by decide +kernel
theorem dX5_bury_19 : decode cX5_bury 19 = .ok (.getfield 9, 3) := by decide +kernel
theorem dX5_bury_22 : decode cX5_bury 22 = .ok (.iload_n 1, 1) := by decide +kernel
theorem dX5_bury_23 : decode cX5_bury 23 = .ok (.bipush (-2), 2) := by decide +kernel
theorem dX5_bury_25 : decode cX5_bury 25 = .ok (.iastore, 1) := by decide +kernel
theorem dX5_bury_26 : decode cX5_bury 26 = .ok (.aload_n 0, 1) := by decide +kernel
theorem dX5_bury_27 : decode cX5_bury 27 = .ok (.dup, 1) := by decide +kernel
theorem dX5_bury_28 : decode cX5_bury 28 = .ok (.getfield 49, 3) := by decide +kernel
theorem dX5_bury_31 : decode cX5_bury 31 = .ok (.iconst 1, 1) := by decide +kernel
theorem dX5_bury_32 : decode cX5_bury 32 = .ok (.isub, 1) := by decide +kernel
theorem dX5_bury_33 : decode cX5_bury 33 = .ok (.putfield 49, 3) := by decide +kernel
theorem dX5_bury_36 : decode cX5_bury 36 = .ok (.aload_n 0, 1) := by decide +kernel
theorem dX5_bury_37 : decode cX5_bury 37 = .ok (.dup, 1) := by decide +kernel
theorem dX5_bury_38 : decode cX5_bury 38 = .ok (.getfield 52, 3) := by decide +kernel
theorem dX5_bury_41 : decode cX5_bury 41 = .ok (.iconst 1, 1) := by decide +kernel
theorem dX5_bury_42 : decode cX5_bury 42 = .ok (.iadd, 1) := by decide +kernel
theorem dX5_bury_43 : decode cX5_bury 43 = .ok (.putfield 52, 3) := by decide +kernel
theorem dX5_bury_46 : decode cX5_bury 46 = .ok (.iconst 1, 1) := by decide +kernel
theorem dX5_bury_47 : decode cX5_bury 47 = .ok (.ireturn, 1) := by decide +kernel
set_option maxHeartbeats 4000000 in
set_option maxRecDepth 100000 in
theorem bX5_bury {p : Program} {l : Launch} {e : Env} {s : State} {m : MethodId} {args : Array Value} {below : List Frame} {meth : Method} {c : Code} {D : va_G} {cB cC cI cO : ClassId} {A : Nat → Prop} (C0 : gC RX5 cX5_bury 2 (some .boolean) p s m args meth c D (hTy cB cC cI cO) A) (h0 h1 h2 h3 h4 : Nat) (out : Int32 × Int32 × Int32 × (Nat → Int32)) (tcp : Int32) (tkd : Int32) (tsd : Int32) (tlm : Int32) (tfu : Int32) (ttb : Int32) (trb : Int32) (tgr : Int32) (tK : Nat → Int32) (tV : Nat → Int32) (tO : Nat → Int32) (tW : Nat → Int32) (x0 : Int32) (hf : fX5_bury tfu ttb tK x0 = some out) : gG p l e rmX5_bury s m args below meth c D A 2 (MQ below (hQi D [(h0, .inr (5, [.ref h1, .ref h2, .ref h3, .ref h4, .int tcp, .int tkd, .int tsd, .int tlm, .int out.2.1, .int out.2.2.1, .int trb, .int tgr])), (h1, .inl (cI, 64, .inl out.2.2.2)), (h2, .inl (cI, 64, .inl tV)), (h3, .inl (cI, 64, .inl tO)), (h4, .inl (cI, 64, .inl tW))] out.1 A) args s 0 0 A) 0 0 0 [(0, .ref h0), (1, .int x0)] [] [(h0, .inr (5, [.ref h1, .ref h2, .ref h3, .ref h4, .int tcp, .int tkd, .int tsd, .int tlm, .int tfu, .int ttb, .int trb, .int tgr])), (h1, .inl (cI, 64, .inl tK)), (h2, .inl (cI, 64, .inl tV)), (h3, .inl (cI, 64, .inl tO)), (h4, .inl (cI, 64, .inl tW))] := by
  unfold fX5_bury at hf
  refine g_iload_n C0 dX5_bury_0 rfl 1 rfl ?_
  obtain ⟨r1, er1, hf⟩ := hl_bd hf
  try dsimp only at hf
  refine g_callSi C0 (ws' := [(h0, .inr (5, [.ref h1, .ref h2, .ref h3, .ref h4, .int tcp, .int tkd, .int tsd, .int tlm, .int tfu, .int ttb, .int trb, .int tgr])), (h1, .inl (cI, 64, .inl tK)), (h2, .inl (cI, 64, .inl tV)), (h3, .inl (cI, 64, .inl tO)), (h4, .inl (cI, 64, .inl tW))]) (mX5_isInRows l D cB cC cI cO    x0 r1 er1) hmX5_isInRows q_278 ⟨Nat.le_of_ble_eq_true rfl, Nat.le_of_ble_eq_true rfl⟩ ⟨Nat.le_of_ble_eq_true rfl, Nat.le_of_ble_eq_true rfl⟩ rfl rfl [] rfl rfl rfl rfl rfl rfl (Nat.le_of_ble_eq_true rfl) dX5_bury_1 ?_
  refine g_if_eq C0 (tgt := 16) dX5_bury_4 (by decide) (fun c2 => ?_) (fun c2 => ?_)
  · rw [if_pos c2] at hf
    refine g_iconst C0 (v := (0 : Int32)) dX5_bury_16 (by decide) ?_
    cases hf
    exact g_iret C0 rfl dX5_bury_17 rfl rfl
  · rw [if_neg c2] at hf
    refine g_aload_n C0 dX5_bury_7 rfl 0 rfl ?_
    refine g_get C0 hinX5 0 rfl rfl 0 (by decide) q_60 rfl dX5_bury_8 ?_
    refine g_iload_n C0 dX5_bury_11 rfl 1 rfl ?_
    obtain ⟨i3, hf⟩ := hl_ifS hf
    refine g_iald C0 1 1 rfl rfl i3 rfl dX5_bury_12 ?_
    refine g_if_ge C0 (tgt := 18) dX5_bury_13 (by decide) (fun c4 => ?_) (fun c4 => ?_)
    · rw [if_pos c4] at hf
      refine g_aload_n C0 dX5_bury_18 rfl 0 rfl ?_
      refine g_get C0 hinX5 0 rfl rfl 0 (by decide) q_60 rfl dX5_bury_19 ?_
      refine g_iload_n C0 dX5_bury_22 rfl 1 rfl ?_
      refine g_bipush C0 (v := (-2 : Int32)) dX5_bury_23 (by decide) ?_
      obtain ⟨i5, hf⟩ := hl_ifS hf
      refine g_iast C0 (ws' := [(h0, .inr (5, [.ref h1, .ref h2, .ref h3, .ref h4, .int tcp, .int tkd, .int tsd, .int tlm, .int tfu, .int ttb, .int trb, .int tgr])), (h1, .inl (cI, 64, .inl (upd tK (x0.toNatClampNeg) (-2 : Int32)))), (h2, .inl (cI, 64, .inl tV)), (h3, .inl (cI, 64, .inl tO)), (h4, .inl (cI, 64, .inl tW))]) 1 1 rfl rfl i5 rfl dX5_bury_25 rfl ?_
      refine g_aload_n C0 dX5_bury_26 rfl 0 rfl ?_
      refine g_dup C0 dX5_bury_27 rfl ?_
      refine g_get C0 hinX5 0 rfl rfl 8 (by decide) q_73 rfl dX5_bury_28 ?_
      refine g_iconst C0 (v := (1 : Int32)) dX5_bury_31 (by decide) ?_
      refine g_isub C0 dX5_bury_32 ?_
      refine g_put C0 (ws' := [(h0, .inr (5, [.ref h1, .ref h2, .ref h3, .ref h4, .int tcp, .int tkd, .int tsd, .int tlm, .int (tfu - (1 : Int32)), .int ttb, .int trb, .int tgr])), (h1, .inl (cI, 64, .inl (upd tK (x0.toNatClampNeg) (-2 : Int32)))), (h2, .inl (cI, 64, .inl tV)), (h3, .inl (cI, 64, .inl tO)), (h4, .inl (cI, 64, .inl tW))]) hinX5 0 rfl rfl 8 (by decide) q_73 tyX5_ok nmX5 rfl rfl rfl (Nat.le_of_ble_eq_true rfl) rfl dX5_bury_33 ?_
      refine g_aload_n C0 dX5_bury_36 rfl 0 rfl ?_
      refine g_dup C0 dX5_bury_37 rfl ?_
      refine g_get C0 hinX5 0 rfl rfl 9 (by decide) q_75 rfl dX5_bury_38 ?_
      refine g_iconst C0 (v := (1 : Int32)) dX5_bury_41 (by decide) ?_
      refine g_iadd C0 dX5_bury_42 ?_
      refine g_put C0 (ws' := [(h0, .inr (5, [.ref h1, .ref h2, .ref h3, .ref h4, .int tcp, .int tkd, .int tsd, .int tlm, .int (tfu - (1 : Int32)), .int (ttb + (1 : Int32)), .int trb, .int tgr])), (h1, .inl (cI, 64, .inl (upd tK (x0.toNatClampNeg) (-2 : Int32)))), (h2, .inl (cI, 64, .inl tV)), (h3, .inl (cI, 64, .inl tO)), (h4, .inl (cI, 64, .inl tW))]) hinX5 0 rfl rfl 9 (by decide) q_75 tyX5_ok nmX5 rfl rfl rfl (Nat.le_of_ble_eq_true rfl) rfl dX5_bury_43 ?_
      refine g_iconst C0 (v := (1 : Int32)) dX5_bury_46 (by decide) ?_
      cases hf
      exact g_iret C0 rfl dX5_bury_47 rfl rfl
    · rw [if_neg c4] at hf
      refine g_iconst C0 (v := (0 : Int32)) dX5_bury_16 (by decide) ?_
      cases hf
      exact g_iret C0 rfl dX5_bury_17 rfl rfl
theorem mX5_bury (l : Launch) (D : va_G) (cB cC cI cO : ClassId)  (h0 h1 h2 h3 h4 : Nat) (tcp : Int32) (tkd : Int32) (tsd : Int32) (tlm : Int32) (tfu : Int32) (ttb : Int32) (trb : Int32) (tgr : Int32) (tK : Nat → Int32) (tV : Nat → Int32) (tO : Nat → Int32) (tW : Nat → Int32) (x0 : Int32) (out : Int32 × Int32 × Int32 × (Nat → Int32)) (hf : fX5_bury tfu ttb tK x0 = some out) : ∀ sz, Met l yX5_bury (ws_ yX5_bury cX5_bury 2 (some .boolean)) rmX5_bury (va_Pc [.ref h0, .int x0] (hPre D (hTy cB cC cI cO) [(h0, .inr (5, [.ref h1, .ref h2, .ref h3, .ref h4, .int tcp, .int tkd, .int tsd, .int tlm, .int tfu, .int ttb, .int trb, .int tgr])), (h1, .inl (cI, 64, .inl tK)), (h2, .inl (cI, 64, .inl tV)), (h3, .inl (cI, 64, .inl tO)), (h4, .inl (cI, 64, .inl tW))] sz)) (hQi D [(h0, .inr (5, [.ref h1, .ref h2, .ref h3, .ref h4, .int tcp, .int tkd, .int tsd, .int tlm, .int out.2.1, .int out.2.2.1, .int trb, .int tgr])), (h1, .inl (cI, 64, .inl out.2.2.2)), (h2, .inl (cI, 64, .inl tV)), (h3, .inl (cI, 64, .inl tO)), (h4, .inl (cI, 64, .inl tW))] out.1 (va_A [(h0, .inr (5, [.ref h1, .ref h2, .ref h3, .ref h4, .int tcp, .int tkd, .int tsd, .int tlm, .int tfu, .int ttb, .int trb, .int tgr])), (h1, .inl (cI, 64, .inl tK)), (h2, .inl (cI, 64, .inl tV)), (h3, .inl (cI, 64, .inl tO)), (h4, .inl (cI, 64, .inl tW))] sz)) 0 0 (va_A [(h0, .inr (5, [.ref h1, .ref h2, .ref h3, .ref h4, .int tcp, .int tkd, .int tsd, .int tlm, .int tfu, .int ttb, .int trb, .int tgr])), (h1, .inl (cI, 64, .inl tK)), (h2, .inl (cI, 64, .inl tV)), (h3, .inl (cI, 64, .inl tO)), (h4, .inl (cI, 64, .inl tW))] sz) :=
  g_met (Qf := fun A => hQi D [(h0, .inr (5, [.ref h1, .ref h2, .ref h3, .ref h4, .int tcp, .int tkd, .int tsd, .int tlm, .int out.2.1, .int out.2.2.1, .int trb, .int tgr])), (h1, .inl (cI, 64, .inl out.2.2.2)), (h2, .inl (cI, 64, .inl tV)), (h3, .inl (cI, 64, .inl tO)), (h4, .inl (cI, 64, .inl tW))] out.1 A) (by decide +kernel) (Nat.le_of_ble_eq_true rfl) rfl (fun C0 => bX5_bury C0 h0 h1 h2 h3 h4 out tcp tkd tsd tlm tfu ttb trb tgr tK tV tO tW x0 hf)
abbrev rmX5_changeKind : Room := { frames := 4, cells := 0, slots := 0, locals := 222 }
theorem hmX5_changeKind : hMV yX5_changeKind cX5_changeKind 2 none 1 := ⟨q_634, q_13, q_632, q_633, by decide, by decide, by decide +kernel⟩
theorem dX5_changeKind_0 : decode cX5_changeKind 0 = .ok (.aload_n 0, 1) := by decide +kernel
theorem dX5_changeKind_1 : decode cX5_changeKind 1 = .ok (.iload_n 1, 1) := by decide +kernel
theorem dX5_changeKind_2 : decode cX5_changeKind 2 = .ok (.putfield 24, 3) := by decide +kernel
theorem dX5_changeKind_5 : decode cX5_changeKind 5 = .ok (.aload_n 0, 1) := by decide +kernel
theorem dX5_changeKind_6 : decode cX5_changeKind 6 = .ok (.aload_n 0, 1) := by decide +kernel
theorem dX5_changeKind_7 : decode cX5_changeKind 7 = .ok (.getfield 31, 3) := by decide +kernel
theorem dX5_changeKind_10 : decode cX5_changeKind 10 = .ok (.invokevirtual 118, 3) := by decide +kernel
theorem dX5_changeKind_13 : decode cX5_changeKind 13 = .ok (.return_, 1) := by decide +kernel
set_option maxHeartbeats 4000000 in
set_option maxRecDepth 100000 in
theorem bX5_changeKind {p : Program} {l : Launch} {e : Env} {s : State} {m : MethodId} {args : Array Value} {below : List Frame} {meth : Method} {c : Code} {D : va_G} {cB cC cI cO : ClassId} {A : Nat → Prop} (C0 : gC RX5 cX5_changeKind 2 none p s m args meth c D (hTy cB cC cI cO) A) (h0 h1 h2 h3 h4 : Nat) (out : Int32 × Int32 × Int32 × Int32 × Int32 × Int32 × (Nat → Int32) × (Nat → Int32) × (Nat → Int32) × (Nat → Int32)) (tcp : Int32) (tkd : Int32) (tsd : Int32) (tlm : Int32) (tfu : Int32) (ttb : Int32) (trb : Int32) (tgr : Int32) (tK : Nat → Int32) (tV : Nat → Int32) (tO : Nat → Int32) (tW : Nat → Int32) (x0 : Int32) (hf : fX5_changeKind tcp tkd tsd tfu ttb trb tgr tK tV tO tW x0 = some out) : gG p l e rmX5_changeKind s m args below meth c D A 2 (MQ below (hQv D [(h0, .inr (5, [.ref h1, .ref h2, .ref h3, .ref h4, .int out.1, .int out.2.1, .int tsd, .int tlm, .int out.2.2.1, .int out.2.2.2.1, .int out.2.2.2.2.1, .int out.2.2.2.2.2.1])), (h1, .inl (cI, 64, .inl out.2.2.2.2.2.2.1)), (h2, .inl (cI, 64, .inl out.2.2.2.2.2.2.2.1)), (h3, .inl (cI, 64, .inl out.2.2.2.2.2.2.2.2.1)), (h4, .inl (cI, 64, .inl out.2.2.2.2.2.2.2.2.2))] A) args s 0 0 A) 0 0 0 [(0, .ref h0), (1, .int x0)] [] [(h0, .inr (5, [.ref h1, .ref h2, .ref h3, .ref h4, .int tcp, .int tkd, .int tsd, .int tlm, .int tfu, .int ttb, .int trb, .int tgr])), (h1, .inl (cI, 64, .inl tK)), (h2, .inl (cI, 64, .inl tV)), (h3, .inl (cI, 64, .inl tO)), (h4, .inl (cI, 64, .inl tW))] := by
  unfold fX5_changeKind at hf
  refine g_aload_n C0 dX5_changeKind_0 rfl 0 rfl ?_
  refine g_iload_n C0 dX5_changeKind_1 rfl 1 rfl ?_
  refine g_put C0 (ws' := [(h0, .inr (5, [.ref h1, .ref h2, .ref h3, .ref h4, .int tcp, .int x0, .int tsd, .int tlm, .int tfu, .int ttb, .int trb, .int tgr])), (h1, .inl (cI, 64, .inl tK)), (h2, .inl (cI, 64, .inl tV)), (h3, .inl (cI, 64, .inl tO)), (h4, .inl (cI, 64, .inl tW))]) hinX5 0 rfl rfl 5 (by decide) q_67 tyX5_ok nmX5 rfl rfl rfl (Nat.le_of_ble_eq_true rfl) rfl dX5_changeKind_2 ?_
  refine g_aload_n C0 dX5_changeKind_5 rfl 0 rfl ?_
  refine g_aload_n C0 dX5_changeKind_6 rfl 0 rfl ?_
  refine g_get C0 hinX5 0 rfl rfl 4 (by decide) q_64 rfl dX5_changeKind_7 ?_
  obtain ⟨r1, er1, hf⟩ := hl_bd hf
  try dsimp only at hf
  refine g_callVv C0 (ws' := [(h0, .inr (5, [.ref h1, .ref h2, .ref h3, .ref h4, .int r1.1, .int x0, .int tsd, .int tlm, .int r1.2.1, .int r1.2.2.1, .int r1.2.2.2.1, .int r1.2.2.2.2.1])), (h1, .inl (cI, 64, .inl r1.2.2.2.2.2.1)), (h2, .inl (cI, 64, .inl r1.2.2.2.2.2.2.1)), (h3, .inl (cI, 64, .inl r1.2.2.2.2.2.2.2.1)), (h4, .inl (cI, 64, .inl r1.2.2.2.2.2.2.2.2))]) (mX5_rebuildWith l D cB cC cI cO  h0 h1 h2 h3 h4 tcp x0 tsd tlm tfu ttb trb tgr tK tV tO tW tcp r1 er1) hmX5_rebuildWith q_585 ⟨Nat.le_of_ble_eq_true rfl, Nat.le_of_ble_eq_true rfl⟩ ⟨Nat.le_of_ble_eq_true rfl, Nat.le_of_ble_eq_true rfl⟩ rfl rfl [0, 1, 2, 3, 4] rfl rfl rfl rfl rfl 0 rfl rfl rfl (Nat.le_of_ble_eq_true rfl) dX5_changeKind_10 ?_
  cases hf
  exact g_vret C0 dX5_changeKind_13 rfl
theorem mX5_changeKind (l : Launch) (D : va_G) (cB cC cI cO : ClassId)  (h0 h1 h2 h3 h4 : Nat) (tcp : Int32) (tkd : Int32) (tsd : Int32) (tlm : Int32) (tfu : Int32) (ttb : Int32) (trb : Int32) (tgr : Int32) (tK : Nat → Int32) (tV : Nat → Int32) (tO : Nat → Int32) (tW : Nat → Int32) (x0 : Int32) (out : Int32 × Int32 × Int32 × Int32 × Int32 × Int32 × (Nat → Int32) × (Nat → Int32) × (Nat → Int32) × (Nat → Int32)) (hf : fX5_changeKind tcp tkd tsd tfu ttb trb tgr tK tV tO tW x0 = some out) : ∀ sz, Met l yX5_changeKind (ws_ yX5_changeKind cX5_changeKind 2 none) rmX5_changeKind (va_Pc [.ref h0, .int x0] (hPre D (hTy cB cC cI cO) [(h0, .inr (5, [.ref h1, .ref h2, .ref h3, .ref h4, .int tcp, .int tkd, .int tsd, .int tlm, .int tfu, .int ttb, .int trb, .int tgr])), (h1, .inl (cI, 64, .inl tK)), (h2, .inl (cI, 64, .inl tV)), (h3, .inl (cI, 64, .inl tO)), (h4, .inl (cI, 64, .inl tW))] sz)) (hQv D [(h0, .inr (5, [.ref h1, .ref h2, .ref h3, .ref h4, .int out.1, .int out.2.1, .int tsd, .int tlm, .int out.2.2.1, .int out.2.2.2.1, .int out.2.2.2.2.1, .int out.2.2.2.2.2.1])), (h1, .inl (cI, 64, .inl out.2.2.2.2.2.2.1)), (h2, .inl (cI, 64, .inl out.2.2.2.2.2.2.2.1)), (h3, .inl (cI, 64, .inl out.2.2.2.2.2.2.2.2.1)), (h4, .inl (cI, 64, .inl out.2.2.2.2.2.2.2.2.2))] (va_A [(h0, .inr (5, [.ref h1, .ref h2, .ref h3, .ref h4, .int tcp, .int tkd, .int tsd, .int tlm, .int tfu, .int ttb, .int trb, .int tgr])), (h1, .inl (cI, 64, .inl tK)), (h2, .inl (cI, 64, .inl tV)), (h3, .inl (cI, 64, .inl tO)), (h4, .inl (cI, 64, .inl tW))] sz)) 0 0 (va_A [(h0, .inr (5, [.ref h1, .ref h2, .ref h3, .ref h4, .int tcp, .int tkd, .int tsd, .int tlm, .int tfu, .int ttb, .int trb, .int tgr])), (h1, .inl (cI, 64, .inl tK)), (h2, .inl (cI, 64, .inl tV)), (h3, .inl (cI, 64, .inl tO)), (h4, .inl (cI, 64, .inl tW))] sz) :=
  g_met (Qf := fun A => hQv D [(h0, .inr (5, [.ref h1, .ref h2, .ref h3, .ref h4, .int out.1, .int out.2.1, .int tsd, .int tlm, .int out.2.2.1, .int out.2.2.2.1, .int out.2.2.2.2.1, .int out.2.2.2.2.2.1])), (h1, .inl (cI, 64, .inl out.2.2.2.2.2.2.1)), (h2, .inl (cI, 64, .inl out.2.2.2.2.2.2.2.1)), (h3, .inl (cI, 64, .inl out.2.2.2.2.2.2.2.2.1)), (h4, .inl (cI, 64, .inl out.2.2.2.2.2.2.2.2.2))] A) (by decide +kernel) (Nat.le_of_ble_eq_true rfl) rfl (fun C0 => bX5_changeKind C0 h0 h1 h2 h3 h4 out tcp tkd tsd tlm tfu ttb trb tgr tK tV tO tW x0 hf)
abbrev rmX5_changeSeed : Room := { frames := 4, cells := 0, slots := 0, locals := 222 }
theorem hmX5_changeSeed : hMV yX5_changeSeed cX5_changeSeed 2 none 1 := ⟨q_706, q_13, q_704, q_705, by decide, by decide, by decide +kernel⟩
theorem dX5_changeSeed_0 : decode cX5_changeSeed 0 = .ok (.aload_n 0, 1) := by decide +kernel
theorem dX5_changeSeed_1 : decode cX5_changeSeed 1 = .ok (.iload_n 1, 1) := by decide +kernel
theorem dX5_changeSeed_2 : decode cX5_changeSeed 2 = .ok (.putfield 46, 3) := by decide +kernel
theorem dX5_changeSeed_5 : decode cX5_changeSeed 5 = .ok (.aload_n 0, 1) := by decide +kernel
theorem dX5_changeSeed_6 : decode cX5_changeSeed 6 = .ok (.aload_n 0, 1) := by decide +kernel
theorem dX5_changeSeed_7 : decode cX5_changeSeed 7 = .ok (.getfield 31, 3) := by decide +kernel
theorem dX5_changeSeed_10 : decode cX5_changeSeed 10 = .ok (.invokevirtual 118, 3) := by decide +kernel
theorem dX5_changeSeed_13 : decode cX5_changeSeed 13 = .ok (.return_, 1) := by decide +kernel
set_option maxHeartbeats 4000000 in
set_option maxRecDepth 100000 in
theorem bX5_changeSeed {p : Program} {l : Launch} {e : Env} {s : State} {m : MethodId} {args : Array Value} {below : List Frame} {meth : Method} {c : Code} {D : va_G} {cB cC cI cO : ClassId} {A : Nat → Prop} (C0 : gC RX5 cX5_changeSeed 2 none p s m args meth c D (hTy cB cC cI cO) A) (h0 h1 h2 h3 h4 : Nat) (out : Int32 × Int32 × Int32 × Int32 × Int32 × Int32 × (Nat → Int32) × (Nat → Int32) × (Nat → Int32) × (Nat → Int32)) (tcp : Int32) (tkd : Int32) (tsd : Int32) (tlm : Int32) (tfu : Int32) (ttb : Int32) (trb : Int32) (tgr : Int32) (tK : Nat → Int32) (tV : Nat → Int32) (tO : Nat → Int32) (tW : Nat → Int32) (x0 : Int32) (hf : fX5_changeSeed tcp tkd tsd tfu ttb trb tgr tK tV tO tW x0 = some out) : gG p l e rmX5_changeSeed s m args below meth c D A 2 (MQ below (hQv D [(h0, .inr (5, [.ref h1, .ref h2, .ref h3, .ref h4, .int out.1, .int tkd, .int out.2.1, .int tlm, .int out.2.2.1, .int out.2.2.2.1, .int out.2.2.2.2.1, .int out.2.2.2.2.2.1])), (h1, .inl (cI, 64, .inl out.2.2.2.2.2.2.1)), (h2, .inl (cI, 64, .inl out.2.2.2.2.2.2.2.1)), (h3, .inl (cI, 64, .inl out.2.2.2.2.2.2.2.2.1)), (h4, .inl (cI, 64, .inl out.2.2.2.2.2.2.2.2.2))] A) args s 0 0 A) 0 0 0 [(0, .ref h0), (1, .int x0)] [] [(h0, .inr (5, [.ref h1, .ref h2, .ref h3, .ref h4, .int tcp, .int tkd, .int tsd, .int tlm, .int tfu, .int ttb, .int trb, .int tgr])), (h1, .inl (cI, 64, .inl tK)), (h2, .inl (cI, 64, .inl tV)), (h3, .inl (cI, 64, .inl tO)), (h4, .inl (cI, 64, .inl tW))] := by
  unfold fX5_changeSeed at hf
  refine g_aload_n C0 dX5_changeSeed_0 rfl 0 rfl ?_
  refine g_iload_n C0 dX5_changeSeed_1 rfl 1 rfl ?_
  refine g_put C0 (ws' := [(h0, .inr (5, [.ref h1, .ref h2, .ref h3, .ref h4, .int tcp, .int tkd, .int x0, .int tlm, .int tfu, .int ttb, .int trb, .int tgr])), (h1, .inl (cI, 64, .inl tK)), (h2, .inl (cI, 64, .inl tV)), (h3, .inl (cI, 64, .inl tO)), (h4, .inl (cI, 64, .inl tW))]) hinX5 0 rfl rfl 6 (by decide) q_69 tyX5_ok nmX5 rfl rfl rfl (Nat.le_of_ble_eq_true rfl) rfl dX5_changeSeed_2 ?_
  refine g_aload_n C0 dX5_changeSeed_5 rfl 0 rfl ?_
  refine g_aload_n C0 dX5_changeSeed_6 rfl 0 rfl ?_
  refine g_get C0 hinX5 0 rfl rfl 4 (by decide) q_64 rfl dX5_changeSeed_7 ?_
  obtain ⟨r1, er1, hf⟩ := hl_bd hf
  try dsimp only at hf
  refine g_callVv C0 (ws' := [(h0, .inr (5, [.ref h1, .ref h2, .ref h3, .ref h4, .int r1.1, .int tkd, .int x0, .int tlm, .int r1.2.1, .int r1.2.2.1, .int r1.2.2.2.1, .int r1.2.2.2.2.1])), (h1, .inl (cI, 64, .inl r1.2.2.2.2.2.1)), (h2, .inl (cI, 64, .inl r1.2.2.2.2.2.2.1)), (h3, .inl (cI, 64, .inl r1.2.2.2.2.2.2.2.1)), (h4, .inl (cI, 64, .inl r1.2.2.2.2.2.2.2.2))]) (mX5_rebuildWith l D cB cC cI cO  h0 h1 h2 h3 h4 tcp tkd x0 tlm tfu ttb trb tgr tK tV tO tW tcp r1 er1) hmX5_rebuildWith q_585 ⟨Nat.le_of_ble_eq_true rfl, Nat.le_of_ble_eq_true rfl⟩ ⟨Nat.le_of_ble_eq_true rfl, Nat.le_of_ble_eq_true rfl⟩ rfl rfl [0, 1, 2, 3, 4] rfl rfl rfl rfl rfl 0 rfl rfl rfl (Nat.le_of_ble_eq_true rfl) dX5_changeSeed_10 ?_
  cases hf
  exact g_vret C0 dX5_changeSeed_13 rfl
theorem mX5_changeSeed (l : Launch) (D : va_G) (cB cC cI cO : ClassId)  (h0 h1 h2 h3 h4 : Nat) (tcp : Int32) (tkd : Int32) (tsd : Int32) (tlm : Int32) (tfu : Int32) (ttb : Int32) (trb : Int32) (tgr : Int32) (tK : Nat → Int32) (tV : Nat → Int32) (tO : Nat → Int32) (tW : Nat → Int32) (x0 : Int32) (out : Int32 × Int32 × Int32 × Int32 × Int32 × Int32 × (Nat → Int32) × (Nat → Int32) × (Nat → Int32) × (Nat → Int32)) (hf : fX5_changeSeed tcp tkd tsd tfu ttb trb tgr tK tV tO tW x0 = some out) : ∀ sz, Met l yX5_changeSeed (ws_ yX5_changeSeed cX5_changeSeed 2 none) rmX5_changeSeed (va_Pc [.ref h0, .int x0] (hPre D (hTy cB cC cI cO) [(h0, .inr (5, [.ref h1, .ref h2, .ref h3, .ref h4, .int tcp, .int tkd, .int tsd, .int tlm, .int tfu, .int ttb, .int trb, .int tgr])), (h1, .inl (cI, 64, .inl tK)), (h2, .inl (cI, 64, .inl tV)), (h3, .inl (cI, 64, .inl tO)), (h4, .inl (cI, 64, .inl tW))] sz)) (hQv D [(h0, .inr (5, [.ref h1, .ref h2, .ref h3, .ref h4, .int out.1, .int tkd, .int out.2.1, .int tlm, .int out.2.2.1, .int out.2.2.2.1, .int out.2.2.2.2.1, .int out.2.2.2.2.2.1])), (h1, .inl (cI, 64, .inl out.2.2.2.2.2.2.1)), (h2, .inl (cI, 64, .inl out.2.2.2.2.2.2.2.1)), (h3, .inl (cI, 64, .inl out.2.2.2.2.2.2.2.2.1)), (h4, .inl (cI, 64, .inl out.2.2.2.2.2.2.2.2.2))] (va_A [(h0, .inr (5, [.ref h1, .ref h2, .ref h3, .ref h4, .int tcp, .int tkd, .int tsd, .int tlm, .int tfu, .int ttb, .int trb, .int tgr])), (h1, .inl (cI, 64, .inl tK)), (h2, .inl (cI, 64, .inl tV)), (h3, .inl (cI, 64, .inl tO)), (h4, .inl (cI, 64, .inl tW))] sz)) 0 0 (va_A [(h0, .inr (5, [.ref h1, .ref h2, .ref h3, .ref h4, .int tcp, .int tkd, .int tsd, .int tlm, .int tfu, .int ttb, .int trb, .int tgr])), (h1, .inl (cI, 64, .inl tK)), (h2, .inl (cI, 64, .inl tV)), (h3, .inl (cI, 64, .inl tO)), (h4, .inl (cI, 64, .inl tW))] sz) :=
  g_met (Qf := fun A => hQv D [(h0, .inr (5, [.ref h1, .ref h2, .ref h3, .ref h4, .int out.1, .int tkd, .int out.2.1, .int tlm, .int out.2.2.1, .int out.2.2.2.1, .int out.2.2.2.2.1, .int out.2.2.2.2.2.1])), (h1, .inl (cI, 64, .inl out.2.2.2.2.2.2.1)), (h2, .inl (cI, 64, .inl out.2.2.2.2.2.2.2.1)), (h3, .inl (cI, 64, .inl out.2.2.2.2.2.2.2.2.1)), (h4, .inl (cI, 64, .inl out.2.2.2.2.2.2.2.2.2))] A) (by decide +kernel) (Nat.le_of_ble_eq_true rfl) rfl (fun C0 => bX5_changeSeed C0 h0 h1 h2 h3 h4 out tcp tkd tsd tlm tfu ttb trb tgr tK tV tO tW x0 hf)
abbrev rmX5_meanSearchLength : Room := { frames := 3, cells := 0, slots := 0, locals := 68 }
theorem hmX5_meanSearchLength : hMV yX5_meanSearchLength cX5_meanSearchLength 3 (some .double) 0 := ⟨q_517, q_13, q_515, q_516, by decide, by decide, by decide +kernel⟩
theorem dX5_meanSearchLength_0 : decode cX5_meanSearchLength 0 = .ok (.iconst 0, 1) := by decide +kernel
theorem dX5_meanSearchLength_1 : decode cX5_meanSearchLength 1 = .ok (.istore_n 1, 1) := by decide +kernel
theorem dX5_meanSearchLength_2 : decode cX5_meanSearchLength 2 = .ok (.iconst 0, 1) := by decide +kernel
theorem dX5_meanSearchLength_3 : decode cX5_meanSearchLength 3 = .ok (.istore_n 2, 1) := by decide +kernel
theorem dX5_meanSearchLength_4 : decode cX5_meanSearchLength 4 = .ok (.iload_n 2, 1) := by decide +kernel
theorem dX5_meanSearchLength_5 : decode cX5_meanSearchLength 5 = .ok (.aload_n 0, 1) := by decide +kernel
theorem dX5_meanSearchLength_6 : decode cX5_meanSearchLength 6 = .ok (.getfield 31, 3) := by decide +kernel
theorem dX5_meanSearchLength_9 : decode cX5_meanSearchLength 9 = .ok (.if_icmp .ge 29, 3) := by decide +kernel
theorem dX5_meanSearchLength_12 : decode cX5_meanSearchLength 12 = .ok (.aload_n 0, 1) := by decide +kernel
theorem dX5_meanSearchLength_13 : decode cX5_meanSearchLength 13 = .ok (.iload_n 2, 1) := by decide +kernel
theorem dX5_meanSearchLength_14 : decode cX5_meanSearchLength 14 = .ok (.invokevirtual 97, 3) := by decide +kernel
theorem dX5_meanSearchLength_17 : decode cX5_meanSearchLength 17 = .ok (.ifCond .eq 15, 3) := by decide +kernel
theorem dX5_meanSearchLength_20 : decode cX5_meanSearchLength 20 = .ok (.iload_n 1, 1) := by decide +kernel
theorem dX5_meanSearchLength_21 : decode cX5_meanSearchLength 21 = .ok (.aload_n 0, 1) := by decide +kernel
theorem dX5_meanSearchLength_22 : decode cX5_meanSearchLength 22 = .ok (.aload_n 0, 1) := by decide +kernel
theorem dX5_meanSearchLength_23 : decode cX5_meanSearchLength 23 = .ok (.iload_n 2, 1) := by decide +kernel
theorem dX5_meanSearchLength_24 : decode cX5_meanSearchLength 24 = .ok (.invokevirtual 69, 3) := by decide +kernel
theorem dX5_meanSearchLength_27 : decode cX5_meanSearchLength 27 = .ok (.invokevirtual 94, 3) := by decide +kernel
theorem dX5_meanSearchLength_30 : decode cX5_meanSearchLength 30 = .ok (.iadd, 1) := by decide +kernel
theorem dX5_meanSearchLength_31 : decode cX5_meanSearchLength 31 = .ok (.istore_n 1, 1) := by decide +kernel
theorem dX5_meanSearchLength_32 : decode cX5_meanSearchLength 32 = .ok (.iinc 2 1, 3) := by decide +kernel
theorem dX5_meanSearchLength_35 : decode cX5_meanSearchLength 35 = .ok (.goto (-31), 3) := by decide +kernel
theorem dX5_meanSearchLength_38 : decode cX5_meanSearchLength 38 = .ok (.aload_n 0, 1) := by decide +kernel
theorem dX5_meanSearchLength_39 : decode cX5_meanSearchLength 39 = .ok (.getfield 49, 3) := by decide +kernel
theorem dX5_meanSearchLength_42 : decode cX5_meanSearchLength 42 = .ok (.ifCond .le 14, 3) := by decide +kernel
theorem dX5_meanSearchLength_45 : decode cX5_meanSearchLength 45 = .ok (.iload_n 1, 1) := by decide +kernel
theorem dX5_meanSearchLength_46 : decode cX5_meanSearchLength 46 = .ok (.i2d, 1) := by decide +kernel
theorem dX5_meanSearchLength_47 : decode cX5_meanSearchLength 47 = .ok (.aload_n 0, 1) := by decide +kernel
theorem dX5_meanSearchLength_48 : decode cX5_meanSearchLength 48 = .ok (.getfield 49, 3) := by decide +kernel
theorem dX5_meanSearchLength_51 : decode cX5_meanSearchLength 51 = .ok (.i2d, 1) := by decide +kernel
theorem dX5_meanSearchLength_52 : decode cX5_meanSearchLength 52 = .ok (.ddiv, 1) := by decide +kernel
theorem dX5_meanSearchLength_53 : decode cX5_meanSearchLength 53 = .ok (.goto 4, 3) := by decide +kernel
theorem dX5_meanSearchLength_56 : decode cX5_meanSearchLength 56 = .ok (.dconst 0, 1) := by decide +kernel
theorem dX5_meanSearchLength_57 : decode cX5_meanSearchLength 57 = .ok (.dreturn, 1) := by decide +kernel
set_option maxHeartbeats 4000000 in
set_option maxRecDepth 100000 in
theorem bX5_meanSearchLength_32 {p : Program} {l : Launch} {e : Env} {s : State} {m : MethodId} {args : Array Value} {below : List Frame} {meth : Method} {c : Code} {D : va_G} {cB cC cI cO : ClassId} {A : Nat → Prop} (C0 : gC RX5 cX5_meanSearchLength 3 (some .double) p s m args meth c D (hTy cB cC cI cO) A) (h0 h1 h2 h3 h4 : Nat) (out : UInt64) (tlm : Int32) (ttb : Int32) (trb : Int32) (tgr : Int32) (tV : Nat → Int32) (tO : Nat → Int32) (tW : Nat → Int32) (rec4 : Int32 → Int32 → Int32 → Int32 → (Nat → Int32) → Int32 → Int32 → Option (UInt64)) (hrec4 : ∀ (tcp : Int32) (tkd : Int32) (tsd : Int32) (tfu : Int32) (tK : Nat → Int32) (v1 : Int32) (v2 : Int32), rec4 tcp tkd tsd tfu tK v1 v2 = some out → gG p l e rmX5_meanSearchLength s m args below meth c D A 3 (MQ below (hQd D [(h0, .inr (5, [.ref h1, .ref h2, .ref h3, .ref h4, .int tcp, .int tkd, .int tsd, .int tlm, .int tfu, .int ttb, .int trb, .int tgr])), (h1, .inl (cI, 64, .inl tK)), (h2, .inl (cI, 64, .inl tV)), (h3, .inl (cI, 64, .inl tO)), (h4, .inl (cI, 64, .inl tW))] out A) args s 0 0 A) 0 0 4 [(0, .ref h0), (1, .int v1), (2, .int v2)] [] [(h0, .inr (5, [.ref h1, .ref h2, .ref h3, .ref h4, .int tcp, .int tkd, .int tsd, .int tlm, .int tfu, .int ttb, .int trb, .int tgr])), (h1, .inl (cI, 64, .inl tK)), (h2, .inl (cI, 64, .inl tV)), (h3, .inl (cI, 64, .inl tO)), (h4, .inl (cI, 64, .inl tW))]) : ∀ (tcp : Int32) (tkd : Int32) (tsd : Int32) (tfu : Int32) (tK : Nat → Int32) (v1 : Int32) (v2 : Int32), fX5_meanSearchLength_32 rec4 tcp tkd tsd tfu tK v1 v2 = some out → gG p l e rmX5_meanSearchLength s m args below meth c D A 3 (MQ below (hQd D [(h0, .inr (5, [.ref h1, .ref h2, .ref h3, .ref h4, .int tcp, .int tkd, .int tsd, .int tlm, .int tfu, .int ttb, .int trb, .int tgr])), (h1, .inl (cI, 64, .inl tK)), (h2, .inl (cI, 64, .inl tV)), (h3, .inl (cI, 64, .inl tO)), (h4, .inl (cI, 64, .inl tW))] out A) args s 0 0 A) 0 0 32 [(0, .ref h0), (1, .int v1), (2, .int v2)] [] [(h0, .inr (5, [.ref h1, .ref h2, .ref h3, .ref h4, .int tcp, .int tkd, .int tsd, .int tlm, .int tfu, .int ttb, .int trb, .int tgr])), (h1, .inl (cI, 64, .inl tK)), (h2, .inl (cI, 64, .inl tV)), (h3, .inl (cI, 64, .inl tO)), (h4, .inl (cI, 64, .inl tW))] := by
  intro tcp tkd tsd tfu tK v1 v2 hf
  unfold fX5_meanSearchLength_32 at hf
  refine g_iinc C0 (lv' := [(2, .int (v2 + (1 : Int32))), (0, .ref h0), (1, .int v1)]) dX5_meanSearchLength_32 2 rfl rfl (by decide) rfl ?_
  refine g_goto C0 (tgt := 4) dX5_meanSearchLength_35 (by decide) ?_
  refine g_lv [1, 2, 0] (lv' := [(0, .ref h0), (1, .int v1), (2, .int (v2 + (1 : Int32)))]) rfl ?_
  exact hrec4 tcp tkd tsd tfu tK v1 (v2 + (1 : Int32)) hf
set_option maxHeartbeats 4000000 in
set_option maxRecDepth 100000 in
theorem bX5_meanSearchLength_4 {p : Program} {l : Launch} {e : Env} {s : State} {m : MethodId} {args : Array Value} {below : List Frame} {meth : Method} {c : Code} {D : va_G} {cB cC cI cO : ClassId} {A : Nat → Prop} (C0 : gC RX5 cX5_meanSearchLength 3 (some .double) p s m args meth c D (hTy cB cC cI cO) A) (h0 h1 h2 h3 h4 : Nat) (out : UInt64) (tlm : Int32) (ttb : Int32) (trb : Int32) (tgr : Int32) (tV : Nat → Int32) (tO : Nat → Int32) (tW : Nat → Int32)   : ∀ (n : Nat) (tcp : Int32) (tkd : Int32) (tsd : Int32) (tfu : Int32) (tK : Nat → Int32) (v1 : Int32) (v2 : Int32), fX5_meanSearchLength_4 n tcp tkd tsd tfu tK v1 v2 = some out → gG p l e rmX5_meanSearchLength s m args below meth c D A 3 (MQ below (hQd D [(h0, .inr (5, [.ref h1, .ref h2, .ref h3, .ref h4, .int tcp, .int tkd, .int tsd, .int tlm, .int tfu, .int ttb, .int trb, .int tgr])), (h1, .inl (cI, 64, .inl tK)), (h2, .inl (cI, 64, .inl tV)), (h3, .inl (cI, 64, .inl tO)), (h4, .inl (cI, 64, .inl tW))] out A) args s 0 0 A) 0 0 4 [(0, .ref h0), (1, .int v1), (2, .int v2)] [] [(h0, .inr (5, [.ref h1, .ref h2, .ref h3, .ref h4, .int tcp, .int tkd, .int tsd, .int tlm, .int tfu, .int ttb, .int trb, .int tgr])), (h1, .inl (cI, 64, .inl tK)), (h2, .inl (cI, 64, .inl tV)), (h3, .inl (cI, 64, .inl tO)), (h4, .inl (cI, 64, .inl tW))] := by
  intro n
  induction n with
  | zero => intro tcp tkd tsd tfu tK v1 v2 hf; rw [fX5_meanSearchLength_4] at hf; cases hf
  | succ n ih =>
    intro tcp tkd tsd tfu tK v1 v2 hf
    rw [fX5_meanSearchLength_4] at hf
    refine g_iload_n C0 dX5_meanSearchLength_4 rfl 2 rfl ?_
    refine g_aload_n C0 dX5_meanSearchLength_5 rfl 0 rfl ?_
    refine g_get C0 hinX5 0 rfl rfl 4 (by decide) q_64 rfl dX5_meanSearchLength_6 ?_
    refine g_icmp_ge C0 (tgt := 38) dX5_meanSearchLength_9 (by decide) (fun c1 => ?_) (fun c1 => ?_)
    · rw [if_pos c1] at hf
      refine g_aload_n C0 dX5_meanSearchLength_38 rfl 0 rfl ?_
      refine g_get C0 hinX5 0 rfl rfl 8 (by decide) q_73 rfl dX5_meanSearchLength_39 ?_
      refine g_if_le C0 (tgt := 56) dX5_meanSearchLength_42 (by decide) (fun c2 => ?_) (fun c2 => ?_)
      · rw [if_pos c2] at hf
        refine g_dconst0 C0 dX5_meanSearchLength_56 ?_
        cases hf
        exact g_dret C0 dX5_meanSearchLength_57 rfl rfl
      · rw [if_neg c2] at hf
        refine g_iload_n C0 dX5_meanSearchLength_45 rfl 1 rfl ?_
        refine g_i2d C0 dX5_meanSearchLength_46 ?_
        refine g_aload_n C0 dX5_meanSearchLength_47 rfl 0 rfl ?_
        refine g_get C0 hinX5 0 rfl rfl 8 (by decide) q_73 rfl dX5_meanSearchLength_48 ?_
        refine g_i2d C0 dX5_meanSearchLength_51 ?_
        obtain ⟨n3, hf⟩ := hl_ifS hf
        refine g_ddiv C0 dX5_meanSearchLength_52 (hl_n64P n3) ?_
        refine g_goto C0 (tgt := 57) dX5_meanSearchLength_53 (by decide) ?_
        cases hf
        exact g_dret C0 dX5_meanSearchLength_57 rfl rfl
    · rw [if_neg c1] at hf
      refine g_aload_n C0 dX5_meanSearchLength_12 rfl 0 rfl ?_
      refine g_iload_n C0 dX5_meanSearchLength_13 rfl 2 rfl ?_
      obtain ⟨r4, er4, hf⟩ := hl_bd hf
      try dsimp only at hf
      refine g_callVi C0 (ws' := [(h0, .inr (5, [.ref h1, .ref h2, .ref h3, .ref h4, .int tcp, .int tkd, .int tsd, .int tlm, .int tfu, .int ttb, .int trb, .int tgr])), (h1, .inl (cI, 64, .inl tK)), (h2, .inl (cI, 64, .inl tV)), (h3, .inl (cI, 64, .inl tO)), (h4, .inl (cI, 64, .inl tW))]) (mX5_isFullSlot l D cB cC cI cO  h0 h1 h2 h3 h4 tcp tkd tsd tlm tfu ttb trb tgr tK tV tO tW v2 r4 er4) hmX5_isFullSlot q_434 ⟨Nat.le_of_ble_eq_true rfl, Nat.le_of_ble_eq_true rfl⟩ ⟨Nat.le_of_ble_eq_true rfl, Nat.le_of_ble_eq_true rfl⟩ rfl rfl [0, 1, 2, 3, 4] rfl rfl rfl rfl rfl 0 rfl rfl rfl (Nat.le_of_ble_eq_true rfl) dX5_meanSearchLength_14 ?_
      refine g_if_eq C0 (tgt := 32) dX5_meanSearchLength_17 (by decide) (fun c5 => ?_) (fun c5 => ?_)
      · rw [if_pos c5] at hf
        refine g_lv [0, 1, 2] (lv' := [(0, .ref h0), (1, .int v1), (2, .int v2)]) rfl ?_
        exact bX5_meanSearchLength_32 C0 h0 h1 h2 h3 h4 out tlm ttb trb tgr tV tO tW (fX5_meanSearchLength_4 n) ih  tcp tkd tsd tfu tK v1 v2 hf
      · rw [if_neg c5] at hf
        refine g_iload_n C0 dX5_meanSearchLength_20 rfl 1 rfl ?_
        refine g_aload_n C0 dX5_meanSearchLength_21 rfl 0 rfl ?_
        refine g_aload_n C0 dX5_meanSearchLength_22 rfl 0 rfl ?_
        refine g_iload_n C0 dX5_meanSearchLength_23 rfl 2 rfl ?_
        obtain ⟨r6, er6, hf⟩ := hl_bd hf
        try dsimp only at hf
        refine g_callVi C0 (ws' := [(h0, .inr (5, [.ref h1, .ref h2, .ref h3, .ref h4, .int tcp, .int tkd, .int tsd, .int tlm, .int tfu, .int ttb, .int trb, .int tgr])), (h1, .inl (cI, 64, .inl tK)), (h2, .inl (cI, 64, .inl tV)), (h3, .inl (cI, 64, .inl tO)), (h4, .inl (cI, 64, .inl tW))]) (mX5_content l D cB cC cI cO  h0 h1 h2 h3 h4 tcp tkd tsd tlm tfu ttb trb tgr tK tV tO tW v2 r6 er6) hmX5_content q_274 ⟨Nat.le_of_ble_eq_true rfl, Nat.le_of_ble_eq_true rfl⟩ ⟨Nat.le_of_ble_eq_true rfl, Nat.le_of_ble_eq_true rfl⟩ rfl rfl [0, 1, 2, 3, 4] rfl rfl rfl rfl rfl 0 rfl rfl rfl (Nat.le_of_ble_eq_true rfl) dX5_meanSearchLength_24 ?_
        obtain ⟨r7, er7, hf⟩ := hl_bd hf
        try dsimp only at hf
        refine g_callVi C0 (ws' := [(h0, .inr (5, [.ref h1, .ref h2, .ref h3, .ref h4, .int tcp, .int tkd, .int tsd, .int tlm, .int tfu, .int ttb, .int trb, .int tgr])), (h1, .inl (cI, 64, .inl tK)), (h2, .inl (cI, 64, .inl tV)), (h3, .inl (cI, 64, .inl tO)), (h4, .inl (cI, 64, .inl tW))]) (mX5_searchLength l D cB cC cI cO  h0 h1 h2 h3 h4 tcp tkd tsd tlm tfu ttb trb tgr tK tV tO tW r6 r7 er7) hmX5_searchLength q_248 ⟨Nat.le_of_ble_eq_true rfl, Nat.le_of_ble_eq_true rfl⟩ ⟨Nat.le_of_ble_eq_true rfl, Nat.le_of_ble_eq_true rfl⟩ rfl rfl [0, 1, 2, 3, 4] rfl rfl rfl rfl rfl 0 rfl rfl rfl (Nat.le_of_ble_eq_true rfl) dX5_meanSearchLength_27 ?_
        refine g_iadd C0 dX5_meanSearchLength_30 ?_
        refine g_istore_n C0 (lv' := [(1, .int (v1 + r7)), (0, .ref h0), (2, .int v2)]) dX5_meanSearchLength_31 rfl (by decide) rfl ?_
        refine g_lv [1, 0, 2] (lv' := [(0, .ref h0), (1, .int (v1 + r7)), (2, .int v2)]) rfl ?_
        exact bX5_meanSearchLength_32 C0 h0 h1 h2 h3 h4 out tlm ttb trb tgr tV tO tW (fX5_meanSearchLength_4 n) ih  tcp tkd tsd tfu tK (v1 + r7) v2 hf
set_option maxHeartbeats 4000000 in
set_option maxRecDepth 100000 in
theorem bX5_meanSearchLength {p : Program} {l : Launch} {e : Env} {s : State} {m : MethodId} {args : Array Value} {below : List Frame} {meth : Method} {c : Code} {D : va_G} {cB cC cI cO : ClassId} {A : Nat → Prop} (C0 : gC RX5 cX5_meanSearchLength 3 (some .double) p s m args meth c D (hTy cB cC cI cO) A) (h0 h1 h2 h3 h4 : Nat) (out : UInt64) (tcp : Int32) (tkd : Int32) (tsd : Int32) (tlm : Int32) (tfu : Int32) (ttb : Int32) (trb : Int32) (tgr : Int32) (tK : Nat → Int32) (tV : Nat → Int32) (tO : Nat → Int32) (tW : Nat → Int32)  (hf : fX5_meanSearchLength tcp tkd tsd tfu tK = some out) : gG p l e rmX5_meanSearchLength s m args below meth c D A 3 (MQ below (hQd D [(h0, .inr (5, [.ref h1, .ref h2, .ref h3, .ref h4, .int tcp, .int tkd, .int tsd, .int tlm, .int tfu, .int ttb, .int trb, .int tgr])), (h1, .inl (cI, 64, .inl tK)), (h2, .inl (cI, 64, .inl tV)), (h3, .inl (cI, 64, .inl tO)), (h4, .inl (cI, 64, .inl tW))] out A) args s 0 0 A) 0 0 0 [(0, .ref h0)] [] [(h0, .inr (5, [.ref h1, .ref h2, .ref h3, .ref h4, .int tcp, .int tkd, .int tsd, .int tlm, .int tfu, .int ttb, .int trb, .int tgr])), (h1, .inl (cI, 64, .inl tK)), (h2, .inl (cI, 64, .inl tV)), (h3, .inl (cI, 64, .inl tO)), (h4, .inl (cI, 64, .inl tW))] := by
  unfold fX5_meanSearchLength at hf
  refine g_iconst C0 (v := (0 : Int32)) dX5_meanSearchLength_0 (by decide) ?_
  refine g_istore_n C0 (lv' := [(1, .int (0 : Int32)), (0, .ref h0)]) dX5_meanSearchLength_1 rfl (by decide) rfl ?_
  refine g_iconst C0 (v := (0 : Int32)) dX5_meanSearchLength_2 (by decide) ?_
  refine g_istore_n C0 (lv' := [(2, .int (0 : Int32)), (1, .int (0 : Int32)), (0, .ref h0)]) dX5_meanSearchLength_3 rfl (by decide) rfl ?_
  refine g_lv [2, 1, 0] (lv' := [(0, .ref h0), (1, .int (0 : Int32)), (2, .int (0 : Int32))]) rfl ?_
  exact bX5_meanSearchLength_4 C0 h0 h1 h2 h3 h4 out tlm ttb trb tgr tV tO tW  1000 tcp tkd tsd tfu tK (0 : Int32) (0 : Int32) hf
theorem mX5_meanSearchLength (l : Launch) (D : va_G) (cB cC cI cO : ClassId)  (h0 h1 h2 h3 h4 : Nat) (tcp : Int32) (tkd : Int32) (tsd : Int32) (tlm : Int32) (tfu : Int32) (ttb : Int32) (trb : Int32) (tgr : Int32) (tK : Nat → Int32) (tV : Nat → Int32) (tO : Nat → Int32) (tW : Nat → Int32)  (out : UInt64) (hf : fX5_meanSearchLength tcp tkd tsd tfu tK = some out) : ∀ sz, Met l yX5_meanSearchLength (ws_ yX5_meanSearchLength cX5_meanSearchLength 3 (some .double)) rmX5_meanSearchLength (va_Pc [.ref h0] (hPre D (hTy cB cC cI cO) [(h0, .inr (5, [.ref h1, .ref h2, .ref h3, .ref h4, .int tcp, .int tkd, .int tsd, .int tlm, .int tfu, .int ttb, .int trb, .int tgr])), (h1, .inl (cI, 64, .inl tK)), (h2, .inl (cI, 64, .inl tV)), (h3, .inl (cI, 64, .inl tO)), (h4, .inl (cI, 64, .inl tW))] sz)) (hQd D [(h0, .inr (5, [.ref h1, .ref h2, .ref h3, .ref h4, .int tcp, .int tkd, .int tsd, .int tlm, .int tfu, .int ttb, .int trb, .int tgr])), (h1, .inl (cI, 64, .inl tK)), (h2, .inl (cI, 64, .inl tV)), (h3, .inl (cI, 64, .inl tO)), (h4, .inl (cI, 64, .inl tW))] out (va_A [(h0, .inr (5, [.ref h1, .ref h2, .ref h3, .ref h4, .int tcp, .int tkd, .int tsd, .int tlm, .int tfu, .int ttb, .int trb, .int tgr])), (h1, .inl (cI, 64, .inl tK)), (h2, .inl (cI, 64, .inl tV)), (h3, .inl (cI, 64, .inl tO)), (h4, .inl (cI, 64, .inl tW))] sz)) 0 0 (va_A [(h0, .inr (5, [.ref h1, .ref h2, .ref h3, .ref h4, .int tcp, .int tkd, .int tsd, .int tlm, .int tfu, .int ttb, .int trb, .int tgr])), (h1, .inl (cI, 64, .inl tK)), (h2, .inl (cI, 64, .inl tV)), (h3, .inl (cI, 64, .inl tO)), (h4, .inl (cI, 64, .inl tW))] sz) :=
  g_met (Qf := fun A => hQd D [(h0, .inr (5, [.ref h1, .ref h2, .ref h3, .ref h4, .int tcp, .int tkd, .int tsd, .int tlm, .int tfu, .int ttb, .int trb, .int tgr])), (h1, .inl (cI, 64, .inl tK)), (h2, .inl (cI, 64, .inl tV)), (h3, .inl (cI, 64, .inl tO)), (h4, .inl (cI, 64, .inl tW))] out A) (by decide +kernel) (Nat.le_of_ble_eq_true rfl) rfl (fun C0 => bX5_meanSearchLength C0 h0 h1 h2 h3 h4 out tcp tkd tsd tlm tfu ttb trb tgr tK tV tO tW  hf)
abbrev rmX5_share : Room := { frames := 0, cells := 0, slots := 0, locals := 0 }
theorem hmX5_share : hMV yX5_share cX5_share 1 (some .float) 0 := ⟨q_536, q_13, q_534, q_535, by decide, by decide, by decide +kernel⟩
theorem dX5_share_0 : decode cX5_share 0 = .ok (.aload_n 0, 1) := by decide +kernel
theorem dX5_share_1 : decode cX5_share 1 = .ok (.getfield 31, 3) := by decide +kernel
theorem dX5_share_4 : decode cX5_share 4 = .ok (.ifCond .le 17, 3) := by decide +kernel
theorem dX5_share_7 : decode cX5_share 7 = .ok (.aload_n 0, 1) := by decide +kernel
theorem dX5_share_8 : decode cX5_share 8 = .ok (.getfield 49, 3) := by decide +kernel
theorem dX5_share_11 : decode cX5_share 11 = .ok (.i2f, 1) := by decide +kernel
theorem dX5_share_12 : decode cX5_share 12 = .ok (.aload_n 0, 1) := by decide +kernel
theorem dX5_share_13 : decode cX5_share 13 = .ok (.getfield 31, 3) := by decide +kernel
theorem dX5_share_16 : decode cX5_share 16 = .ok (.i2f, 1) := by decide +kernel
theorem dX5_share_17 : decode cX5_share 17 = .ok (.fdiv, 1) := by decide +kernel
theorem dX5_share_18 : decode cX5_share 18 = .ok (.goto 4, 3) := by decide +kernel
theorem dX5_share_21 : decode cX5_share 21 = .ok (.fconst 0, 1) := by decide +kernel
theorem dX5_share_22 : decode cX5_share 22 = .ok (.freturn, 1) := by decide +kernel
set_option maxHeartbeats 4000000 in
set_option maxRecDepth 100000 in
theorem bX5_share {p : Program} {l : Launch} {e : Env} {s : State} {m : MethodId} {args : Array Value} {below : List Frame} {meth : Method} {c : Code} {D : va_G} {cB cC cI cO : ClassId} {A : Nat → Prop} (C0 : gC RX5 cX5_share 1 (some .float) p s m args meth c D (hTy cB cC cI cO) A) (h0 h1 h2 h3 h4 : Nat) (out : UInt32) (tcp : Int32) (tkd : Int32) (tsd : Int32) (tlm : Int32) (tfu : Int32) (ttb : Int32) (trb : Int32) (tgr : Int32) (tK : Nat → Int32) (tV : Nat → Int32) (tO : Nat → Int32) (tW : Nat → Int32)  (hf : fX5_share tcp tfu = some out) : gG p l e rmX5_share s m args below meth c D A 1 (MQ below (hQf D [(h0, .inr (5, [.ref h1, .ref h2, .ref h3, .ref h4, .int tcp, .int tkd, .int tsd, .int tlm, .int tfu, .int ttb, .int trb, .int tgr])), (h1, .inl (cI, 64, .inl tK)), (h2, .inl (cI, 64, .inl tV)), (h3, .inl (cI, 64, .inl tO)), (h4, .inl (cI, 64, .inl tW))] out A) args s 0 0 A) 0 0 0 [(0, .ref h0)] [] [(h0, .inr (5, [.ref h1, .ref h2, .ref h3, .ref h4, .int tcp, .int tkd, .int tsd, .int tlm, .int tfu, .int ttb, .int trb, .int tgr])), (h1, .inl (cI, 64, .inl tK)), (h2, .inl (cI, 64, .inl tV)), (h3, .inl (cI, 64, .inl tO)), (h4, .inl (cI, 64, .inl tW))] := by
  unfold fX5_share at hf
  refine g_aload_n C0 dX5_share_0 rfl 0 rfl ?_
  refine g_get C0 hinX5 0 rfl rfl 4 (by decide) q_64 rfl dX5_share_1 ?_
  refine g_if_le C0 (tgt := 21) dX5_share_4 (by decide) (fun c1 => ?_) (fun c1 => ?_)
  · rw [if_pos c1] at hf
    refine g_fconst0 C0 dX5_share_21 ?_
    cases hf
    exact g_fret C0 dX5_share_22 rfl rfl
  · rw [if_neg c1] at hf
    refine g_aload_n C0 dX5_share_7 rfl 0 rfl ?_
    refine g_get C0 hinX5 0 rfl rfl 8 (by decide) q_73 rfl dX5_share_8 ?_
    refine g_i2f C0 dX5_share_11 ?_
    refine g_aload_n C0 dX5_share_12 rfl 0 rfl ?_
    refine g_get C0 hinX5 0 rfl rfl 4 (by decide) q_64 rfl dX5_share_13 ?_
    refine g_i2f C0 dX5_share_16 ?_
    obtain ⟨n2, hf⟩ := hl_ifS hf
    refine g_fdiv C0 dX5_share_17 (hl_n32P n2) ?_
    refine g_goto C0 (tgt := 22) dX5_share_18 (by decide) ?_
    cases hf
    exact g_fret C0 dX5_share_22 rfl rfl
theorem mX5_share (l : Launch) (D : va_G) (cB cC cI cO : ClassId)  (h0 h1 h2 h3 h4 : Nat) (tcp : Int32) (tkd : Int32) (tsd : Int32) (tlm : Int32) (tfu : Int32) (ttb : Int32) (trb : Int32) (tgr : Int32) (tK : Nat → Int32) (tV : Nat → Int32) (tO : Nat → Int32) (tW : Nat → Int32)  (out : UInt32) (hf : fX5_share tcp tfu = some out) : ∀ sz, Met l yX5_share (ws_ yX5_share cX5_share 1 (some .float)) rmX5_share (va_Pc [.ref h0] (hPre D (hTy cB cC cI cO) [(h0, .inr (5, [.ref h1, .ref h2, .ref h3, .ref h4, .int tcp, .int tkd, .int tsd, .int tlm, .int tfu, .int ttb, .int trb, .int tgr])), (h1, .inl (cI, 64, .inl tK)), (h2, .inl (cI, 64, .inl tV)), (h3, .inl (cI, 64, .inl tO)), (h4, .inl (cI, 64, .inl tW))] sz)) (hQf D [(h0, .inr (5, [.ref h1, .ref h2, .ref h3, .ref h4, .int tcp, .int tkd, .int tsd, .int tlm, .int tfu, .int ttb, .int trb, .int tgr])), (h1, .inl (cI, 64, .inl tK)), (h2, .inl (cI, 64, .inl tV)), (h3, .inl (cI, 64, .inl tO)), (h4, .inl (cI, 64, .inl tW))] out (va_A [(h0, .inr (5, [.ref h1, .ref h2, .ref h3, .ref h4, .int tcp, .int tkd, .int tsd, .int tlm, .int tfu, .int ttb, .int trb, .int tgr])), (h1, .inl (cI, 64, .inl tK)), (h2, .inl (cI, 64, .inl tV)), (h3, .inl (cI, 64, .inl tO)), (h4, .inl (cI, 64, .inl tW))] sz)) 0 0 (va_A [(h0, .inr (5, [.ref h1, .ref h2, .ref h3, .ref h4, .int tcp, .int tkd, .int tsd, .int tlm, .int tfu, .int ttb, .int trb, .int tgr])), (h1, .inl (cI, 64, .inl tK)), (h2, .inl (cI, 64, .inl tV)), (h3, .inl (cI, 64, .inl tO)), (h4, .inl (cI, 64, .inl tW))] sz) :=
  g_met (Qf := fun A => hQf D [(h0, .inr (5, [.ref h1, .ref h2, .ref h3, .ref h4, .int tcp, .int tkd, .int tsd, .int tlm, .int tfu, .int ttb, .int trb, .int tgr])), (h1, .inl (cI, 64, .inl tK)), (h2, .inl (cI, 64, .inl tV)), (h3, .inl (cI, 64, .inl tO)), (h4, .inl (cI, 64, .inl tW))] out A) (by decide +kernel) (Nat.le_of_ble_eq_true rfl) rfl (fun C0 => bX5_share C0 h0 h1 h2 h3 h4 out tcp tkd tsd tlm tfu ttb trb tgr tK tV tO tW  hf)
abbrev rmX5_bothCountsAgree : Room := { frames := 3, cells := 0, slots := 0, locals := 68 }
theorem hmX5_bothCountsAgree : hMV yX5_bothCountsAgree cX5_bothCountsAgree 3 (some .boolean) 0 := ⟨q_607, q_13, q_605, q_606, by decide, by decide, by decide +kernel⟩
theorem dX5_bothCountsAgree_0 : decode cX5_bothCountsAgree 0 = .ok (.iconst 0, 1) := by decide +kernel
theorem dX5_bothCountsAgree_1 : decode cX5_bothCountsAgree 1 = .ok (.istore_n 1, 1) := by decide +kernel
theorem dX5_bothCountsAgree_2 : decode cX5_bothCountsAgree 2 = .ok (.iload_n 1, 1) := by decide +kernel
theorem dX5_bothCountsAgree_3 : decode cX5_bothCountsAgree 3 = .ok (.aload_n 0, 1) := by decide +kernel
theorem dX5_bothCountsAgree_4 : decode cX5_bothCountsAgree 4 = .ok (.getfield 31, 3) := by decide +kernel
theorem dX5_bothCountsAgree_7 : decode cX5_bothCountsAgree 7 = .ok (.if_icmp .ge 39, 3) := by decide +kernel
theorem dX5_bothCountsAgree_10 : decode cX5_bothCountsAgree 10 = .ok (.aload_n 0, 1) := by decide +kernel
theorem dX5_bothCountsAgree_11 : decode cX5_bothCountsAgree 11 = .ok (.iload_n 1, 1) := by decide +kernel
theorem dX5_bothCountsAgree_12 : decode cX5_bothCountsAgree 12 = .ok (.invokevirtual 69, 3) := by decide +kernel
theorem dX5_bothCountsAgree_15 : decode cX5_bothCountsAgree 15 = .ok (.istore_n 2, 1) := by decide +kernel
theorem dX5_bothCountsAgree_16 : decode cX5_bothCountsAgree 16 = .ok (.aload_n 0, 1) := by decide +kernel
theorem dX5_bothCountsAgree_17 : decode cX5_bothCountsAgree 17 = .ok (.iload_n 1, 1) := by decide +kernel
theorem dX5_bothCountsAgree_18 : decode cX5_bothCountsAgree 18 = .ok (.invokevirtual 97, 3) := by decide +kernel
theorem dX5_bothCountsAgree_21 : decode cX5_bothCountsAgree 21 = .ok (.ifCond .eq 19, 3) := by decide +kernel
theorem dX5_bothCountsAgree_24 : decode cX5_bothCountsAgree 24 = .ok (.aload_n 0, 1) := by decide +kernel
theorem dX5_bothCountsAgree_25 : decode cX5_bothCountsAgree 25 = .ok (.iload_n 2, 1) := by decide +kernel
theorem dX5_bothCountsAgree_26 : decode cX5_bothCountsAgree 26 = .ok (.invokevirtual 94, 3) := by decide +kernel
theorem dX5_bothCountsAgree_29 : decode cX5_bothCountsAgree 29 = .ok (.aload_n 0, 1) := by decide +kernel
theorem dX5_bothCountsAgree_30 : decode cX5_bothCountsAgree 30 = .ok (.iload_n 1, 1) := by decide +kernel
theorem dX5_bothCountsAgree_31 : decode cX5_bothCountsAgree 31 = .ok (.iload_n 2, 1) := by decide +kernel
theorem dX5_bothCountsAgree_32 : decode cX5_bothCountsAgree 32 = .ok (.invokevirtual 125, 3) := by decide +kernel
theorem dX5_bothCountsAgree_35 : decode cX5_bothCountsAgree 35 = .ok (.if_icmp .eq 5, 3) := by decide +kernel
theorem dX5_bothCountsAgree_38 : decode cX5_bothCountsAgree 38 = .ok (.iconst 0, 1) := by decide +kernel
theorem dX5_bothCountsAgree_39 : decode cX5_bothCountsAgree 39 = .ok (.ireturn, 1) := by decide +kernel
theorem dX5_bothCountsAgree_40 : decode cX5_bothCountsAgree 40 = .ok (.iinc 1 1, 3) := by decide +kernel
theorem dX5_bothCountsAgree_43 : decode cX5_bothCountsAgree 43 = .ok (.goto (-41), 3) := by decide +kernel
theorem dX5_bothCountsAgree_46 : decode cX5_bothCountsAgree 46 = .ok (.iconst 1, 1) := by decide +kernel
theorem dX5_bothCountsAgree_47 : decode cX5_bothCountsAgree 47 = .ok (.ireturn, 1) := by decide +kernel
set_option maxHeartbeats 4000000 in
set_option maxRecDepth 100000 in
theorem bX5_bothCountsAgree_40 {p : Program} {l : Launch} {e : Env} {s : State} {m : MethodId} {args : Array Value} {below : List Frame} {meth : Method} {c : Code} {D : va_G} {cB cC cI cO : ClassId} {A : Nat → Prop} (C0 : gC RX5 cX5_bothCountsAgree 3 (some .boolean) p s m args meth c D (hTy cB cC cI cO) A) (h0 h1 h2 h3 h4 : Nat) (out : Int32) (tlm : Int32) (tfu : Int32) (ttb : Int32) (trb : Int32) (tgr : Int32) (tV : Nat → Int32) (tO : Nat → Int32) (tW : Nat → Int32) (rec2 : Int32 → Int32 → Int32 → (Nat → Int32) → Int32 → Option (Int32)) (hrec2 : ∀ (tcp : Int32) (tkd : Int32) (tsd : Int32) (tK : Nat → Int32) (v1 : Int32), rec2 tcp tkd tsd tK v1 = some out → gG p l e rmX5_bothCountsAgree s m args below meth c D A 3 (MQ below (hQi D [(h0, .inr (5, [.ref h1, .ref h2, .ref h3, .ref h4, .int tcp, .int tkd, .int tsd, .int tlm, .int tfu, .int ttb, .int trb, .int tgr])), (h1, .inl (cI, 64, .inl tK)), (h2, .inl (cI, 64, .inl tV)), (h3, .inl (cI, 64, .inl tO)), (h4, .inl (cI, 64, .inl tW))] out A) args s 0 0 A) 0 0 2 [(0, .ref h0), (1, .int v1)] [] [(h0, .inr (5, [.ref h1, .ref h2, .ref h3, .ref h4, .int tcp, .int tkd, .int tsd, .int tlm, .int tfu, .int ttb, .int trb, .int tgr])), (h1, .inl (cI, 64, .inl tK)), (h2, .inl (cI, 64, .inl tV)), (h3, .inl (cI, 64, .inl tO)), (h4, .inl (cI, 64, .inl tW))]) : ∀ (tcp : Int32) (tkd : Int32) (tsd : Int32) (tK : Nat → Int32) (v1 : Int32), fX5_bothCountsAgree_40 rec2 tcp tkd tsd tK v1 = some out → gG p l e rmX5_bothCountsAgree s m args below meth c D A 3 (MQ below (hQi D [(h0, .inr (5, [.ref h1, .ref h2, .ref h3, .ref h4, .int tcp, .int tkd, .int tsd, .int tlm, .int tfu, .int ttb, .int trb, .int tgr])), (h1, .inl (cI, 64, .inl tK)), (h2, .inl (cI, 64, .inl tV)), (h3, .inl (cI, 64, .inl tO)), (h4, .inl (cI, 64, .inl tW))] out A) args s 0 0 A) 0 0 40 [(0, .ref h0), (1, .int v1)] [] [(h0, .inr (5, [.ref h1, .ref h2, .ref h3, .ref h4, .int tcp, .int tkd, .int tsd, .int tlm, .int tfu, .int ttb, .int trb, .int tgr])), (h1, .inl (cI, 64, .inl tK)), (h2, .inl (cI, 64, .inl tV)), (h3, .inl (cI, 64, .inl tO)), (h4, .inl (cI, 64, .inl tW))] := by
  intro tcp tkd tsd tK v1 hf
  unfold fX5_bothCountsAgree_40 at hf
  refine g_iinc C0 (lv' := [(1, .int (v1 + (1 : Int32))), (0, .ref h0)]) dX5_bothCountsAgree_40 1 rfl rfl (by decide) rfl ?_
  refine g_goto C0 (tgt := 2) dX5_bothCountsAgree_43 (by decide) ?_
  refine g_lv [1, 0] (lv' := [(0, .ref h0), (1, .int (v1 + (1 : Int32)))]) rfl ?_
  exact hrec2 tcp tkd tsd tK (v1 + (1 : Int32)) hf
set_option maxHeartbeats 4000000 in
set_option maxRecDepth 100000 in
theorem bX5_bothCountsAgree_2 {p : Program} {l : Launch} {e : Env} {s : State} {m : MethodId} {args : Array Value} {below : List Frame} {meth : Method} {c : Code} {D : va_G} {cB cC cI cO : ClassId} {A : Nat → Prop} (C0 : gC RX5 cX5_bothCountsAgree 3 (some .boolean) p s m args meth c D (hTy cB cC cI cO) A) (h0 h1 h2 h3 h4 : Nat) (out : Int32) (tlm : Int32) (tfu : Int32) (ttb : Int32) (trb : Int32) (tgr : Int32) (tV : Nat → Int32) (tO : Nat → Int32) (tW : Nat → Int32)   : ∀ (n : Nat) (tcp : Int32) (tkd : Int32) (tsd : Int32) (tK : Nat → Int32) (v1 : Int32), fX5_bothCountsAgree_2 n tcp tkd tsd tK v1 = some out → gG p l e rmX5_bothCountsAgree s m args below meth c D A 3 (MQ below (hQi D [(h0, .inr (5, [.ref h1, .ref h2, .ref h3, .ref h4, .int tcp, .int tkd, .int tsd, .int tlm, .int tfu, .int ttb, .int trb, .int tgr])), (h1, .inl (cI, 64, .inl tK)), (h2, .inl (cI, 64, .inl tV)), (h3, .inl (cI, 64, .inl tO)), (h4, .inl (cI, 64, .inl tW))] out A) args s 0 0 A) 0 0 2 [(0, .ref h0), (1, .int v1)] [] [(h0, .inr (5, [.ref h1, .ref h2, .ref h3, .ref h4, .int tcp, .int tkd, .int tsd, .int tlm, .int tfu, .int ttb, .int trb, .int tgr])), (h1, .inl (cI, 64, .inl tK)), (h2, .inl (cI, 64, .inl tV)), (h3, .inl (cI, 64, .inl tO)), (h4, .inl (cI, 64, .inl tW))] := by
  intro n
  induction n with
  | zero => intro tcp tkd tsd tK v1 hf; rw [fX5_bothCountsAgree_2] at hf; cases hf
  | succ n ih =>
    intro tcp tkd tsd tK v1 hf
    rw [fX5_bothCountsAgree_2] at hf
    refine g_iload_n C0 dX5_bothCountsAgree_2 rfl 1 rfl ?_
    refine g_aload_n C0 dX5_bothCountsAgree_3 rfl 0 rfl ?_
    refine g_get C0 hinX5 0 rfl rfl 4 (by decide) q_64 rfl dX5_bothCountsAgree_4 ?_
    refine g_icmp_ge C0 (tgt := 46) dX5_bothCountsAgree_7 (by decide) (fun c1 => ?_) (fun c1 => ?_)
    · rw [if_pos c1] at hf
      refine g_iconst C0 (v := (1 : Int32)) dX5_bothCountsAgree_46 (by decide) ?_
      cases hf
      exact g_iret C0 rfl dX5_bothCountsAgree_47 rfl rfl
    · rw [if_neg c1] at hf
      refine g_aload_n C0 dX5_bothCountsAgree_10 rfl 0 rfl ?_
      refine g_iload_n C0 dX5_bothCountsAgree_11 rfl 1 rfl ?_
      obtain ⟨r2, er2, hf⟩ := hl_bd hf
      try dsimp only at hf
      refine g_callVi C0 (ws' := [(h0, .inr (5, [.ref h1, .ref h2, .ref h3, .ref h4, .int tcp, .int tkd, .int tsd, .int tlm, .int tfu, .int ttb, .int trb, .int tgr])), (h1, .inl (cI, 64, .inl tK)), (h2, .inl (cI, 64, .inl tV)), (h3, .inl (cI, 64, .inl tO)), (h4, .inl (cI, 64, .inl tW))]) (mX5_content l D cB cC cI cO  h0 h1 h2 h3 h4 tcp tkd tsd tlm tfu ttb trb tgr tK tV tO tW v1 r2 er2) hmX5_content q_274 ⟨Nat.le_of_ble_eq_true rfl, Nat.le_of_ble_eq_true rfl⟩ ⟨Nat.le_of_ble_eq_true rfl, Nat.le_of_ble_eq_true rfl⟩ rfl rfl [0, 1, 2, 3, 4] rfl rfl rfl rfl rfl 0 rfl rfl rfl (Nat.le_of_ble_eq_true rfl) dX5_bothCountsAgree_12 ?_
      refine g_istore_n C0 (lv' := [(2, .int r2), (0, .ref h0), (1, .int v1)]) dX5_bothCountsAgree_15 rfl (by decide) rfl ?_
      refine g_aload_n C0 dX5_bothCountsAgree_16 rfl 1 rfl ?_
      refine g_iload_n C0 dX5_bothCountsAgree_17 rfl 2 rfl ?_
      obtain ⟨r3, er3, hf⟩ := hl_bd hf
      try dsimp only at hf
      refine g_callVi C0 (ws' := [(h0, .inr (5, [.ref h1, .ref h2, .ref h3, .ref h4, .int tcp, .int tkd, .int tsd, .int tlm, .int tfu, .int ttb, .int trb, .int tgr])), (h1, .inl (cI, 64, .inl tK)), (h2, .inl (cI, 64, .inl tV)), (h3, .inl (cI, 64, .inl tO)), (h4, .inl (cI, 64, .inl tW))]) (mX5_isFullSlot l D cB cC cI cO  h0 h1 h2 h3 h4 tcp tkd tsd tlm tfu ttb trb tgr tK tV tO tW v1 r3 er3) hmX5_isFullSlot q_434 ⟨Nat.le_of_ble_eq_true rfl, Nat.le_of_ble_eq_true rfl⟩ ⟨Nat.le_of_ble_eq_true rfl, Nat.le_of_ble_eq_true rfl⟩ rfl rfl [0, 1, 2, 3, 4] rfl rfl rfl rfl rfl 0 rfl rfl rfl (Nat.le_of_ble_eq_true rfl) dX5_bothCountsAgree_18 ?_
      refine g_if_eq C0 (tgt := 40) dX5_bothCountsAgree_21 (by decide) (fun c4 => ?_) (fun c4 => ?_)
      · rw [if_pos c4] at hf
        refine g_lv [1, 2] (lv' := [(0, .ref h0), (1, .int v1)]) rfl ?_
        exact bX5_bothCountsAgree_40 C0 h0 h1 h2 h3 h4 out tlm tfu ttb trb tgr tV tO tW (fX5_bothCountsAgree_2 n) ih  tcp tkd tsd tK v1 hf
      · rw [if_neg c4] at hf
        refine g_aload_n C0 dX5_bothCountsAgree_24 rfl 1 rfl ?_
        refine g_iload_n C0 dX5_bothCountsAgree_25 rfl 0 rfl ?_
        obtain ⟨r5, er5, hf⟩ := hl_bd hf
        try dsimp only at hf
        refine g_callVi C0 (ws' := [(h0, .inr (5, [.ref h1, .ref h2, .ref h3, .ref h4, .int tcp, .int tkd, .int tsd, .int tlm, .int tfu, .int ttb, .int trb, .int tgr])), (h1, .inl (cI, 64, .inl tK)), (h2, .inl (cI, 64, .inl tV)), (h3, .inl (cI, 64, .inl tO)), (h4, .inl (cI, 64, .inl tW))]) (mX5_searchLength l D cB cC cI cO  h0 h1 h2 h3 h4 tcp tkd tsd tlm tfu ttb trb tgr tK tV tO tW r2 r5 er5) hmX5_searchLength q_248 ⟨Nat.le_of_ble_eq_true rfl, Nat.le_of_ble_eq_true rfl⟩ ⟨Nat.le_of_ble_eq_true rfl, Nat.le_of_ble_eq_true rfl⟩ rfl rfl [0, 1, 2, 3, 4] rfl rfl rfl rfl rfl 0 rfl rfl rfl (Nat.le_of_ble_eq_true rfl) dX5_bothCountsAgree_26 ?_
        refine g_aload_n C0 dX5_bothCountsAgree_29 rfl 1 rfl ?_
        refine g_iload_n C0 dX5_bothCountsAgree_30 rfl 2 rfl ?_
        refine g_iload_n C0 dX5_bothCountsAgree_31 rfl 0 rfl ?_
        obtain ⟨r6, er6, hf⟩ := hl_bd hf
        try dsimp only at hf
        refine g_callVi C0 (ws' := [(h0, .inr (5, [.ref h1, .ref h2, .ref h3, .ref h4, .int tcp, .int tkd, .int tsd, .int tlm, .int tfu, .int ttb, .int trb, .int tgr])), (h1, .inl (cI, 64, .inl tK)), (h2, .inl (cI, 64, .inl tV)), (h3, .inl (cI, 64, .inl tO)), (h4, .inl (cI, 64, .inl tW))]) (mX5_distanceTo l D cB cC cI cO  h0 h1 h2 h3 h4 tcp tkd tsd tlm tfu ttb trb tgr tK tV tO tW v1 r2 r6 er6) hmX5_distanceTo q_608 ⟨Nat.le_of_ble_eq_true rfl, Nat.le_of_ble_eq_true rfl⟩ ⟨Nat.le_of_ble_eq_true rfl, Nat.le_of_ble_eq_true rfl⟩ rfl rfl [0, 1, 2, 3, 4] rfl rfl rfl rfl rfl 0 rfl rfl rfl (Nat.le_of_ble_eq_true rfl) dX5_bothCountsAgree_32 ?_
        refine g_icmp_eq C0 (tgt := 40) dX5_bothCountsAgree_35 (by decide) (fun c7 => ?_) (fun c7 => ?_)
        · rw [if_pos c7] at hf
          refine g_lv [1, 2] (lv' := [(0, .ref h0), (1, .int v1)]) rfl ?_
          exact bX5_bothCountsAgree_40 C0 h0 h1 h2 h3 h4 out tlm tfu ttb trb tgr tV tO tW (fX5_bothCountsAgree_2 n) ih  tcp tkd tsd tK v1 hf
        · rw [if_neg c7] at hf
          refine g_iconst C0 (v := (0 : Int32)) dX5_bothCountsAgree_38 (by decide) ?_
          cases hf
          exact g_iret C0 rfl dX5_bothCountsAgree_39 rfl rfl
set_option maxHeartbeats 4000000 in
set_option maxRecDepth 100000 in
theorem bX5_bothCountsAgree {p : Program} {l : Launch} {e : Env} {s : State} {m : MethodId} {args : Array Value} {below : List Frame} {meth : Method} {c : Code} {D : va_G} {cB cC cI cO : ClassId} {A : Nat → Prop} (C0 : gC RX5 cX5_bothCountsAgree 3 (some .boolean) p s m args meth c D (hTy cB cC cI cO) A) (h0 h1 h2 h3 h4 : Nat) (out : Int32) (tcp : Int32) (tkd : Int32) (tsd : Int32) (tlm : Int32) (tfu : Int32) (ttb : Int32) (trb : Int32) (tgr : Int32) (tK : Nat → Int32) (tV : Nat → Int32) (tO : Nat → Int32) (tW : Nat → Int32)  (hf : fX5_bothCountsAgree tcp tkd tsd tK = some out) : gG p l e rmX5_bothCountsAgree s m args below meth c D A 3 (MQ below (hQi D [(h0, .inr (5, [.ref h1, .ref h2, .ref h3, .ref h4, .int tcp, .int tkd, .int tsd, .int tlm, .int tfu, .int ttb, .int trb, .int tgr])), (h1, .inl (cI, 64, .inl tK)), (h2, .inl (cI, 64, .inl tV)), (h3, .inl (cI, 64, .inl tO)), (h4, .inl (cI, 64, .inl tW))] out A) args s 0 0 A) 0 0 0 [(0, .ref h0)] [] [(h0, .inr (5, [.ref h1, .ref h2, .ref h3, .ref h4, .int tcp, .int tkd, .int tsd, .int tlm, .int tfu, .int ttb, .int trb, .int tgr])), (h1, .inl (cI, 64, .inl tK)), (h2, .inl (cI, 64, .inl tV)), (h3, .inl (cI, 64, .inl tO)), (h4, .inl (cI, 64, .inl tW))] := by
  unfold fX5_bothCountsAgree at hf
  refine g_iconst C0 (v := (0 : Int32)) dX5_bothCountsAgree_0 (by decide) ?_
  refine g_istore_n C0 (lv' := [(1, .int (0 : Int32)), (0, .ref h0)]) dX5_bothCountsAgree_1 rfl (by decide) rfl ?_
  refine g_lv [1, 0] (lv' := [(0, .ref h0), (1, .int (0 : Int32))]) rfl ?_
  exact bX5_bothCountsAgree_2 C0 h0 h1 h2 h3 h4 out tlm tfu ttb trb tgr tV tO tW  1000 tcp tkd tsd tK (0 : Int32) hf
theorem mX5_bothCountsAgree (l : Launch) (D : va_G) (cB cC cI cO : ClassId)  (h0 h1 h2 h3 h4 : Nat) (tcp : Int32) (tkd : Int32) (tsd : Int32) (tlm : Int32) (tfu : Int32) (ttb : Int32) (trb : Int32) (tgr : Int32) (tK : Nat → Int32) (tV : Nat → Int32) (tO : Nat → Int32) (tW : Nat → Int32)  (out : Int32) (hf : fX5_bothCountsAgree tcp tkd tsd tK = some out) : ∀ sz, Met l yX5_bothCountsAgree (ws_ yX5_bothCountsAgree cX5_bothCountsAgree 3 (some .boolean)) rmX5_bothCountsAgree (va_Pc [.ref h0] (hPre D (hTy cB cC cI cO) [(h0, .inr (5, [.ref h1, .ref h2, .ref h3, .ref h4, .int tcp, .int tkd, .int tsd, .int tlm, .int tfu, .int ttb, .int trb, .int tgr])), (h1, .inl (cI, 64, .inl tK)), (h2, .inl (cI, 64, .inl tV)), (h3, .inl (cI, 64, .inl tO)), (h4, .inl (cI, 64, .inl tW))] sz)) (hQi D [(h0, .inr (5, [.ref h1, .ref h2, .ref h3, .ref h4, .int tcp, .int tkd, .int tsd, .int tlm, .int tfu, .int ttb, .int trb, .int tgr])), (h1, .inl (cI, 64, .inl tK)), (h2, .inl (cI, 64, .inl tV)), (h3, .inl (cI, 64, .inl tO)), (h4, .inl (cI, 64, .inl tW))] out (va_A [(h0, .inr (5, [.ref h1, .ref h2, .ref h3, .ref h4, .int tcp, .int tkd, .int tsd, .int tlm, .int tfu, .int ttb, .int trb, .int tgr])), (h1, .inl (cI, 64, .inl tK)), (h2, .inl (cI, 64, .inl tV)), (h3, .inl (cI, 64, .inl tO)), (h4, .inl (cI, 64, .inl tW))] sz)) 0 0 (va_A [(h0, .inr (5, [.ref h1, .ref h2, .ref h3, .ref h4, .int tcp, .int tkd, .int tsd, .int tlm, .int tfu, .int ttb, .int trb, .int tgr])), (h1, .inl (cI, 64, .inl tK)), (h2, .inl (cI, 64, .inl tV)), (h3, .inl (cI, 64, .inl tO)), (h4, .inl (cI, 64, .inl tW))] sz) :=
  g_met (Qf := fun A => hQi D [(h0, .inr (5, [.ref h1, .ref h2, .ref h3, .ref h4, .int tcp, .int tkd, .int tsd, .int tlm, .int tfu, .int ttb, .int trb, .int tgr])), (h1, .inl (cI, 64, .inl tK)), (h2, .inl (cI, 64, .inl tV)), (h3, .inl (cI, 64, .inl tO)), (h4, .inl (cI, 64, .inl tW))] out A) (by decide +kernel) (Nat.le_of_ble_eq_true rfl) rfl (fun C0 => bX5_bothCountsAgree C0 h0 h1 h2 h3 h4 out tcp tkd tsd tlm tfu ttb trb tgr tK tV tO tW  hf)
abbrev rmJ13_bitCount_95d88 : Room := { frames := 0, cells := 0, slots := 0, locals := 0 }
theorem hmJ13_bitCount_95d88 : hMS yJ13_bitCount_95d88 cJ13_bitCount_95d88 2 (some .int) 1 := ⟨q_619, q_38, q_618, by decide, by decide, by decide +kernel⟩
theorem dJ13_bitCount_95d88_0 : decode cJ13_bitCount_95d88 0 = .ok (.lload_n 0, 1) := by decide +kernel
theorem dJ13_bitCount_95d88_1 : decode cJ13_bitCount_95d88 1 = .ok (.lload_n 0, 1) := by decide +kernel
theorem dJ13_bitCount_95d88_2 : decode cJ13_bitCount_95d88 2 = .ok (.iconst 1, 1) := by decide +kernel
theorem dJ13_bitCount_95d88_3 : decode cJ13_bitCount_95d88 3 = .ok (.lushr, 1) := by decide +kernel
theorem dJ13_bitCount_95d88_4 : decode cJ13_bitCount_95d88 4 = .ok (.ldc2_w 314, 3) := by decide +kernel
theorem dJ13_bitCount_95d88_7 : decode cJ13_bitCount_95d88 7 = .ok (.land, 1) := by decide +kernel
theorem dJ13_bitCount_95d88_8 : decode cJ13_bitCount_95d88 8 = .ok (.lsub, 1) := by decide +kernel
theorem dJ13_bitCount_95d88_9 : decode cJ13_bitCount_95d88 9 = .ok (.lstore_n 0, 1) := by decide +kernel
theorem dJ13_bitCount_95d88_10 : decode cJ13_bitCount_95d88 10 = .ok (.lload_n 0, 1) := by decide +kernel
theorem dJ13_bitCount_95d88_11 : decode cJ13_bitCount_95d88 11 = .ok (.ldc2_w 316, 3) := by decide +kernel
theorem dJ13_bitCount_95d88_14 : decode cJ13_bitCount_95d88 14 = .ok (.land, 1) := by decide +kernel
theorem dJ13_bitCount_95d88_15 : decode cJ13_bitCount_95d88 15 = .ok (.lload_n 0, 1) := by decide +kernel
theorem dJ13_bitCount_95d88_16 : decode cJ13_bitCount_95d88 16 = .ok (.iconst 2, 1) := by decide +kernel
theorem dJ13_bitCount_95d88_17 : decode cJ13_bitCount_95d88 17 = .ok (.lushr, 1) := by decide +kernel
theorem dJ13_bitCount_95d88_18 : decode cJ13_bitCount_95d88 18 = .ok (.ldc2_w 316, 3) := by decide +kernel
theorem dJ13_bitCount_95d88_21 : decode cJ13_bitCount_95d88 21 = .ok (.land, 1) := by decide +kernel
theorem dJ13_bitCount_95d88_22 : decode cJ13_bitCount_95d88 22 = .ok (.ladd, 1) := by decide +kernel
theorem dJ13_bitCount_95d88_23 : decode cJ13_bitCount_95d88 23 = .ok (.lstore_n 0, 1) := by decide +kernel
theorem dJ13_bitCount_95d88_24 : decode cJ13_bitCount_95d88 24 = .ok (.lload_n 0, 1) := by decide +kernel
theorem dJ13_bitCount_95d88_25 : decode cJ13_bitCount_95d88 25 = .ok (.lload_n 0, 1) := by decide +kernel
theorem dJ13_bitCount_95d88_26 : decode cJ13_bitCount_95d88 26 = .ok (.iconst 4, 1) := by decide +kernel
theorem dJ13_bitCount_95d88_27 : decode cJ13_bitCount_95d88 27 = .ok (.lushr, 1) := by decide +kernel
theorem dJ13_bitCount_95d88_28 : decode cJ13_bitCount_95d88 28 = .ok (.ladd, 1) := by decide +kernel
theorem dJ13_bitCount_95d88_29 : decode cJ13_bitCount_95d88 29 = .ok (.ldc2_w 318, 3) := by decide +kernel
theorem dJ13_bitCount_95d88_32 : decode cJ13_bitCount_95d88 32 = .ok (.land, 1) := by decide +kernel
theorem dJ13_bitCount_95d88_33 : decode cJ13_bitCount_95d88 33 = .ok (.lstore_n 0, 1) := by decide +kernel
theorem dJ13_bitCount_95d88_34 : decode cJ13_bitCount_95d88 34 = .ok (.lload_n 0, 1) := by decide +kernel
theorem dJ13_bitCount_95d88_35 : decode cJ13_bitCount_95d88 35 = .ok (.lload_n 0, 1) := by decide +kernel
theorem dJ13_bitCount_95d88_36 : decode cJ13_bitCount_95d88 36 = .ok (.bipush 8, 2) := by decide +kernel
theorem dJ13_bitCount_95d88_38 : decode cJ13_bitCount_95d88 38 = .ok (.lushr, 1) := by decide +kernel
theorem dJ13_bitCount_95d88_39 : decode cJ13_bitCount_95d88 39 = .ok (.ladd, 1) := by decide +kernel
theorem dJ13_bitCount_95d88_40 : decode cJ13_bitCount_95d88 40 = .ok (.lstore_n 0, 1) := by decide +kernel
theorem dJ13_bitCount_95d88_41 : decode cJ13_bitCount_95d88 41 = .ok (.lload_n 0, 1) := by decide +kernel
theorem dJ13_bitCount_95d88_42 : decode cJ13_bitCount_95d88 42 = .ok (.lload_n 0, 1) := by decide +kernel
theorem dJ13_bitCount_95d88_43 : decode cJ13_bitCount_95d88 43 = .ok (.bipush 16, 2) := by decide +kernel
theorem dJ13_bitCount_95d88_45 : decode cJ13_bitCount_95d88 45 = .ok (.lushr, 1) := by decide +kernel
theorem dJ13_bitCount_95d88_46 : decode cJ13_bitCount_95d88 46 = .ok (.ladd, 1) := by decide +kernel
theorem dJ13_bitCount_95d88_47 : decode cJ13_bitCount_95d88 47 = .ok (.lstore_n 0, 1) := by decide +kernel
theorem dJ13_bitCount_95d88_48 : decode cJ13_bitCount_95d88 48 = .ok (.lload_n 0, 1) := by decide +kernel
theorem dJ13_bitCount_95d88_49 : decode cJ13_bitCount_95d88 49 = .ok (.lload_n 0, 1) := by decide +kernel
theorem dJ13_bitCount_95d88_50 : decode cJ13_bitCount_95d88 50 = .ok (.bipush 32, 2) := by decide +kernel
theorem dJ13_bitCount_95d88_52 : decode cJ13_bitCount_95d88 52 = .ok (.lushr, 1) := by decide +kernel
theorem dJ13_bitCount_95d88_53 : decode cJ13_bitCount_95d88 53 = .ok (.ladd, 1) := by decide +kernel
theorem dJ13_bitCount_95d88_54 : decode cJ13_bitCount_95d88 54 = .ok (.lstore_n 0, 1) := by decide +kernel
theorem dJ13_bitCount_95d88_55 : decode cJ13_bitCount_95d88 55 = .ok (.lload_n 0, 1) := by decide +kernel
theorem dJ13_bitCount_95d88_56 : decode cJ13_bitCount_95d88 56 = .ok (.l2i, 1) := by decide +kernel
theorem dJ13_bitCount_95d88_57 : decode cJ13_bitCount_95d88 57 = .ok (.bipush 127, 2) := by decide +kernel
theorem dJ13_bitCount_95d88_59 : decode cJ13_bitCount_95d88 59 = .ok (.iand, 1) := by decide +kernel
theorem dJ13_bitCount_95d88_60 : decode cJ13_bitCount_95d88 60 = .ok (.ireturn, 1) := by decide +kernel
set_option maxHeartbeats 4000000 in
set_option maxRecDepth 100000 in
theorem bJ13_bitCount_95d88 {p : Program} {l : Launch} {e : Env} {s : State} {m : MethodId} {args : Array Value} {below : List Frame} {meth : Method} {c : Code} {D : va_G} {cB cC cI cO : ClassId} {A : Nat → Prop} (C0 : gC RJ13 cJ13_bitCount_95d88 2 (some .int) p s m args meth c D (hTy cB cC cI cO) A)  (out : Int32)  (x0 : Int64) (hf : fJ13_bitCount_95d88 x0 = some out) : gG p l e rmJ13_bitCount_95d88 s m args below meth c D A 2 (MQ below (hQi D [] out A) args s 0 0 A) 0 0 0 [(0, .long x0)] [] [] := by
  unfold fJ13_bitCount_95d88 at hf
  refine g_lload_n C0 dJ13_bitCount_95d88_0 rfl 0 rfl ?_
  refine g_lload_n C0 dJ13_bitCount_95d88_1 rfl 0 rfl ?_
  refine g_iconst C0 (v := (1 : Int32)) dJ13_bitCount_95d88_2 (by decide) ?_
  refine g_lushr C0 dJ13_bitCount_95d88_3 ?_
  refine g_ldc2l C0 dJ13_bitCount_95d88_4 q_620 ?_
  refine g_land C0 dJ13_bitCount_95d88_7 ?_
  refine g_lsub C0 dJ13_bitCount_95d88_8 ?_
  refine g_lstore_n C0 (lv' := [(0, .long (x0 - (((x0.toUInt64 >>> ((1 : Int32).toInt64.toUInt64 &&& Int64.toUInt64 63)).toInt64) &&& (6148914691236517205 : Int64))))]) dJ13_bitCount_95d88_9 rfl (by decide) rfl ?_
  refine g_lload_n C0 dJ13_bitCount_95d88_10 rfl 0 rfl ?_
  refine g_ldc2l C0 dJ13_bitCount_95d88_11 q_621 ?_
  refine g_land C0 dJ13_bitCount_95d88_14 ?_
  refine g_lload_n C0 dJ13_bitCount_95d88_15 rfl 0 rfl ?_
  refine g_iconst C0 (v := (2 : Int32)) dJ13_bitCount_95d88_16 (by decide) ?_
  refine g_lushr C0 dJ13_bitCount_95d88_17 ?_
  refine g_ldc2l C0 dJ13_bitCount_95d88_18 q_621 ?_
  refine g_land C0 dJ13_bitCount_95d88_21 ?_
  refine g_ladd C0 dJ13_bitCount_95d88_22 ?_
  refine g_lstore_n C0 (lv' := [(0, .long (((x0 - (((x0.toUInt64 >>> ((1 : Int32).toInt64.toUInt64 &&& Int64.toUInt64 63)).toInt64) &&& (6148914691236517205 : Int64))) &&& (3689348814741910323 : Int64)) + ((((x0 - (((x0.toUInt64 >>> ((1 : Int32).toInt64.toUInt64 &&& Int64.toUInt64 63)).toInt64) &&& (6148914691236517205 : Int64))).toUInt64 >>> ((2 : Int32).toInt64.toUInt64 &&& Int64.toUInt64 63)).toInt64) &&& (3689348814741910323 : Int64))))]) dJ13_bitCount_95d88_23 rfl (by decide) rfl ?_
  refine g_lload_n C0 dJ13_bitCount_95d88_24 rfl 0 rfl ?_
  refine g_lload_n C0 dJ13_bitCount_95d88_25 rfl 0 rfl ?_
  refine g_iconst C0 (v := (4 : Int32)) dJ13_bitCount_95d88_26 (by decide) ?_
  refine g_lushr C0 dJ13_bitCount_95d88_27 ?_
  refine g_ladd C0 dJ13_bitCount_95d88_28 ?_
  refine g_ldc2l C0 dJ13_bitCount_95d88_29 q_622 ?_
  refine g_land C0 dJ13_bitCount_95d88_32 ?_
  refine g_lstore_n C0 (lv' := [(0, .long (((((x0 - (((x0.toUInt64 >>> ((1 : Int32).toInt64.toUInt64 &&& Int64.toUInt64 63)).toInt64) &&& (6148914691236517205 : Int64))) &&& (3689348814741910323 : Int64)) + ((((x0 - (((x0.toUInt64 >>> ((1 : Int32).toInt64.toUInt64 &&& Int64.toUInt64 63)).toInt64) &&& (6148914691236517205 : Int64))).toUInt64 >>> ((2 : Int32).toInt64.toUInt64 &&& Int64.toUInt64 63)).toInt64) &&& (3689348814741910323 : Int64))) + (((((x0 - (((x0.toUInt64 >>> ((1 : Int32).toInt64.toUInt64 &&& Int64.toUInt64 63)).toInt64) &&& (6148914691236517205 : Int64))) &&& (3689348814741910323 : Int64)) + ((((x0 - (((x0.toUInt64 >>> ((1 : Int32).toInt64.toUInt64 &&& Int64.toUInt64 63)).toInt64) &&& (6148914691236517205 : Int64))).toUInt64 >>> ((2 : Int32).toInt64.toUInt64 &&& Int64.toUInt64 63)).toInt64) &&& (3689348814741910323 : Int64))).toUInt64 >>> ((4 : Int32).toInt64.toUInt64 &&& Int64.toUInt64 63)).toInt64)) &&& (1085102592571150095 : Int64)))]) dJ13_bitCount_95d88_33 rfl (by decide) rfl ?_
  refine g_lload_n C0 dJ13_bitCount_95d88_34 rfl 0 rfl ?_
  refine g_lload_n C0 dJ13_bitCount_95d88_35 rfl 0 rfl ?_
  refine g_bipush C0 (v := (8 : Int32)) dJ13_bitCount_95d88_36 (by decide) ?_
  refine g_lushr C0 dJ13_bitCount_95d88_38 ?_
  refine g_ladd C0 dJ13_bitCount_95d88_39 ?_
  refine g_lstore_n C0 (lv' := [(0, .long ((((((x0 - (((x0.toUInt64 >>> ((1 : Int32).toInt64.toUInt64 &&& Int64.toUInt64 63)).toInt64) &&& (6148914691236517205 : Int64))) &&& (3689348814741910323 : Int64)) + ((((x0 - (((x0.toUInt64 >>> ((1 : Int32).toInt64.toUInt64 &&& Int64.toUInt64 63)).toInt64) &&& (6148914691236517205 : Int64))).toUInt64 >>> ((2 : Int32).toInt64.toUInt64 &&& Int64.toUInt64 63)).toInt64) &&& (3689348814741910323 : Int64))) + (((((x0 - (((x0.toUInt64 >>> ((1 : Int32).toInt64.toUInt64 &&& Int64.toUInt64 63)).toInt64) &&& (6148914691236517205 : Int64))) &&& (3689348814741910323 : Int64)) + ((((x0 - (((x0.toUInt64 >>> ((1 : Int32).toInt64.toUInt64 &&& Int64.toUInt64 63)).toInt64) &&& (6148914691236517205 : Int64))).toUInt64 >>> ((2 : Int32).toInt64.toUInt64 &&& Int64.toUInt64 63)).toInt64) &&& (3689348814741910323 : Int64))).toUInt64 >>> ((4 : Int32).toInt64.toUInt64 &&& Int64.toUInt64 63)).toInt64)) &&& (1085102592571150095 : Int64)) + (((((((x0 - (((x0.toUInt64 >>> ((1 : Int32).toInt64.toUInt64 &&& Int64.toUInt64 63)).toInt64) &&& (6148914691236517205 : Int64))) &&& (3689348814741910323 : Int64)) + ((((x0 - (((x0.toUInt64 >>> ((1 : Int32).toInt64.toUInt64 &&& Int64.toUInt64 63)).toInt64) &&& (6148914691236517205 : Int64))).toUInt64 >>> ((2 : Int32).toInt64.toUInt64 &&& Int64.toUInt64 63)).toInt64) &&& (3689348814741910323 : Int64))) + (((((x0 - (((x0.toUInt64 >>> ((1 : Int32).toInt64.toUInt64 &&& Int64.toUInt64 63)).toInt64) &&& (6148914691236517205 : Int64))) &&& (3689348814741910323 : Int64)) + ((((x0 - (((x0.toUInt64 >>> ((1 : Int32).toInt64.toUInt64 &&& Int64.toUInt64 63)).toInt64) &&& (6148914691236517205 : Int64))).toUInt64 >>> ((2 : Int32).toInt64.toUInt64 &&& Int64.toUInt64 63)).toInt64) &&& (3689348814741910323 : Int64))).toUInt64 >>> ((4 : Int32).toInt64.toUInt64 &&& Int64.toUInt64 63)).toInt64)) &&& (1085102592571150095 : Int64)).toUInt64 >>> ((8 : Int32).toInt64.toUInt64 &&& Int64.toUInt64 63)).toInt64)))]) dJ13_bitCount_95d88_40 rfl (by decide) rfl ?_
  refine g_lload_n C0 dJ13_bitCount_95d88_41 rfl 0 rfl ?_
  refine g_lload_n C0 dJ13_bitCount_95d88_42 rfl 0 rfl ?_
  refine g_bipush C0 (v := (16 : Int32)) dJ13_bitCount_95d88_43 (by decide) ?_
  refine g_lushr C0 dJ13_bitCount_95d88_45 ?_
  refine g_ladd C0 dJ13_bitCount_95d88_46 ?_
  refine g_lstore_n C0 (lv' := [(0, .long (((((((x0 - (((x0.toUInt64 >>> ((1 : Int32).toInt64.toUInt64 &&& Int64.toUInt64 63)).toInt64) &&& (6148914691236517205 : Int64))) &&& (3689348814741910323 : Int64)) + ((((x0 - (((x0.toUInt64 >>> ((1 : Int32).toInt64.toUInt64 &&& Int64.toUInt64 63)).toInt64) &&& (6148914691236517205 : Int64))).toUInt64 >>> ((2 : Int32).toInt64.toUInt64 &&& Int64.toUInt64 63)).toInt64) &&& (3689348814741910323 : Int64))) + (((((x0 - (((x0.toUInt64 >>> ((1 : Int32).toInt64.toUInt64 &&& Int64.toUInt64 63)).toInt64) &&& (6148914691236517205 : Int64))) &&& (3689348814741910323 : Int64)) + ((((x0 - (((x0.toUInt64 >>> ((1 : Int32).toInt64.toUInt64 &&& Int64.toUInt64 63)).toInt64) &&& (6148914691236517205 : Int64))).toUInt64 >>> ((2 : Int32).toInt64.toUInt64 &&& Int64.toUInt64 63)).toInt64) &&& (3689348814741910323 : Int64))).toUInt64 >>> ((4 : Int32).toInt64.toUInt64 &&& Int64.toUInt64 63)).toInt64)) &&& (1085102592571150095 : Int64)) + (((((((x0 - (((x0.toUInt64 >>> ((1 : Int32).toInt64.toUInt64 &&& Int64.toUInt64 63)).toInt64) &&& (6148914691236517205 : Int64))) &&& (3689348814741910323 : Int64)) + ((((x0 - (((x0.toUInt64 >>> ((1 : Int32).toInt64.toUInt64 &&& Int64.toUInt64 63)).toInt64) &&& (6148914691236517205 : Int64))).toUInt64 >>> ((2 : Int32).toInt64.toUInt64 &&& Int64.toUInt64 63)).toInt64) &&& (3689348814741910323 : Int64))) + (((((x0 - (((x0.toUInt64 >>> ((1 : Int32).toInt64.toUInt64 &&& Int64.toUInt64 63)).toInt64) &&& (6148914691236517205 : Int64))) &&& (3689348814741910323 : Int64)) + ((((x0 - (((x0.toUInt64 >>> ((1 : Int32).toInt64.toUInt64 &&& Int64.toUInt64 63)).toInt64) &&& (6148914691236517205 : Int64))).toUInt64 >>> ((2 : Int32).toInt64.toUInt64 &&& Int64.toUInt64 63)).toInt64) &&& (3689348814741910323 : Int64))).toUInt64 >>> ((4 : Int32).toInt64.toUInt64 &&& Int64.toUInt64 63)).toInt64)) &&& (1085102592571150095 : Int64)).toUInt64 >>> ((8 : Int32).toInt64.toUInt64 &&& Int64.toUInt64 63)).toInt64)) + ((((((((x0 - (((x0.toUInt64 >>> ((1 : Int32).toInt64.toUInt64 &&& Int64.toUInt64 63)).toInt64) &&& (6148914691236517205 : Int64))) &&& (3689348814741910323 : Int64)) + ((((x0 - (((x0.toUInt64 >>> ((1 : Int32).toInt64.toUInt64 &&& Int64.toUInt64 63)).toInt64) &&& (6148914691236517205 : Int64))).toUInt64 >>> ((2 : Int32).toInt64.toUInt64 &&& Int64.toUInt64 63)).toInt64) &&& (3689348814741910323 : Int64))) + (((((x0 - (((x0.toUInt64 >>> ((1 : Int32).toInt64.toUInt64 &&& Int64.toUInt64 63)).toInt64) &&& (6148914691236517205 : Int64))) &&& (3689348814741910323 : Int64)) + ((((x0 - (((x0.toUInt64 >>> ((1 : Int32).toInt64.toUInt64 &&& Int64.toUInt64 63)).toInt64) &&& (6148914691236517205 : Int64))).toUInt64 >>> ((2 : Int32).toInt64.toUInt64 &&& Int64.toUInt64 63)).toInt64) &&& (3689348814741910323 : Int64))).toUInt64 >>> ((4 : Int32).toInt64.toUInt64 &&& Int64.toUInt64 63)).toInt64)) &&& (1085102592571150095 : Int64)) + (((((((x0 - (((x0.toUInt64 >>> ((1 : Int32).toInt64.toUInt64 &&& Int64.toUInt64 63)).toInt64) &&& (6148914691236517205 : Int64))) &&& (3689348814741910323 : Int64)) + ((((x0 - (((x0.toUInt64 >>> ((1 : Int32).toInt64.toUInt64 &&& Int64.toUInt64 63)).toInt64) &&& (6148914691236517205 : Int64))).toUInt64 >>> ((2 : Int32).toInt64.toUInt64 &&& Int64.toUInt64 63)).toInt64) &&& (3689348814741910323 : Int64))) + (((((x0 - (((x0.toUInt64 >>> ((1 : Int32).toInt64.toUInt64 &&& Int64.toUInt64 63)).toInt64) &&& (6148914691236517205 : Int64))) &&& (3689348814741910323 : Int64)) + ((((x0 - (((x0.toUInt64 >>> ((1 : Int32).toInt64.toUInt64 &&& Int64.toUInt64 63)).toInt64) &&& (6148914691236517205 : Int64))).toUInt64 >>> ((2 : Int32).toInt64.toUInt64 &&& Int64.toUInt64 63)).toInt64) &&& (3689348814741910323 : Int64))).toUInt64 >>> ((4 : Int32).toInt64.toUInt64 &&& Int64.toUInt64 63)).toInt64)) &&& (1085102592571150095 : Int64)).toUInt64 >>> ((8 : Int32).toInt64.toUInt64 &&& Int64.toUInt64 63)).toInt64)).toUInt64 >>> ((16 : Int32).toInt64.toUInt64 &&& Int64.toUInt64 63)).toInt64)))]) dJ13_bitCount_95d88_47 rfl (by decide) rfl ?_
  refine g_lload_n C0 dJ13_bitCount_95d88_48 rfl 0 rfl ?_
  refine g_lload_n C0 dJ13_bitCount_95d88_49 rfl 0 rfl ?_
  refine g_bipush C0 (v := (32 : Int32)) dJ13_bitCount_95d88_50 (by decide) ?_
  refine g_lushr C0 dJ13_bitCount_95d88_52 ?_
  refine g_ladd C0 dJ13_bitCount_95d88_53 ?_
  refine g_lstore_n C0 (lv' := [(0, .long ((((((((x0 - (((x0.toUInt64 >>> ((1 : Int32).toInt64.toUInt64 &&& Int64.toUInt64 63)).toInt64) &&& (6148914691236517205 : Int64))) &&& (3689348814741910323 : Int64)) + ((((x0 - (((x0.toUInt64 >>> ((1 : Int32).toInt64.toUInt64 &&& Int64.toUInt64 63)).toInt64) &&& (6148914691236517205 : Int64))).toUInt64 >>> ((2 : Int32).toInt64.toUInt64 &&& Int64.toUInt64 63)).toInt64) &&& (3689348814741910323 : Int64))) + (((((x0 - (((x0.toUInt64 >>> ((1 : Int32).toInt64.toUInt64 &&& Int64.toUInt64 63)).toInt64) &&& (6148914691236517205 : Int64))) &&& (3689348814741910323 : Int64)) + ((((x0 - (((x0.toUInt64 >>> ((1 : Int32).toInt64.toUInt64 &&& Int64.toUInt64 63)).toInt64) &&& (6148914691236517205 : Int64))).toUInt64 >>> ((2 : Int32).toInt64.toUInt64 &&& Int64.toUInt64 63)).toInt64) &&& (3689348814741910323 : Int64))).toUInt64 >>> ((4 : Int32).toInt64.toUInt64 &&& Int64.toUInt64 63)).toInt64)) &&& (1085102592571150095 : Int64)) + (((((((x0 - (((x0.toUInt64 >>> ((1 : Int32).toInt64.toUInt64 &&& Int64.toUInt64 63)).toInt64) &&& (6148914691236517205 : Int64))) &&& (3689348814741910323 : Int64)) + ((((x0 - (((x0.toUInt64 >>> ((1 : Int32).toInt64.toUInt64 &&& Int64.toUInt64 63)).toInt64) &&& (6148914691236517205 : Int64))).toUInt64 >>> ((2 : Int32).toInt64.toUInt64 &&& Int64.toUInt64 63)).toInt64) &&& (3689348814741910323 : Int64))) + (((((x0 - (((x0.toUInt64 >>> ((1 : Int32).toInt64.toUInt64 &&& Int64.toUInt64 63)).toInt64) &&& (6148914691236517205 : Int64))) &&& (3689348814741910323 : Int64)) + ((((x0 - (((x0.toUInt64 >>> ((1 : Int32).toInt64.toUInt64 &&& Int64.toUInt64 63)).toInt64) &&& (6148914691236517205 : Int64))).toUInt64 >>> ((2 : Int32).toInt64.toUInt64 &&& Int64.toUInt64 63)).toInt64) &&& (3689348814741910323 : Int64))).toUInt64 >>> ((4 : Int32).toInt64.toUInt64 &&& Int64.toUInt64 63)).toInt64)) &&& (1085102592571150095 : Int64)).toUInt64 >>> ((8 : Int32).toInt64.toUInt64 &&& Int64.toUInt64 63)).toInt64)) + ((((((((x0 - (((x0.toUInt64 >>> ((1 : Int32).toInt64.toUInt64 &&& Int64.toUInt64 63)).toInt64) &&& (6148914691236517205 : Int64))) &&& (3689348814741910323 : Int64)) + ((((x0 - (((x0.toUInt64 >>> ((1 : Int32).toInt64.toUInt64 &&& Int64.toUInt64 63)).toInt64) &&& (6148914691236517205 : Int64))).toUInt64 >>> ((2 : Int32).toInt64.toUInt64 &&& Int64.toUInt64 63)).toInt64) &&& (3689348814741910323 : Int64))) + (((((x0 - (((x0.toUInt64 >>> ((1 : Int32).toInt64.toUInt64 &&& Int64.toUInt64 63)).toInt64) &&& (6148914691236517205 : Int64))) &&& (3689348814741910323 : Int64)) + ((((x0 - (((x0.toUInt64 >>> ((1 : Int32).toInt64.toUInt64 &&& Int64.toUInt64 63)).toInt64) &&& (6148914691236517205 : Int64))).toUInt64 >>> ((2 : Int32).toInt64.toUInt64 &&& Int64.toUInt64 63)).toInt64) &&& (3689348814741910323 : Int64))).toUInt64 >>> ((4 : Int32).toInt64.toUInt64 &&& Int64.toUInt64 63)).toInt64)) &&& (1085102592571150095 : Int64)) + (((((((x0 - (((x0.toUInt64 >>> ((1 : Int32).toInt64.toUInt64 &&& Int64.toUInt64 63)).toInt64) &&& (6148914691236517205 : Int64))) &&& (3689348814741910323 : Int64)) + ((((x0 - (((x0.toUInt64 >>> ((1 : Int32).toInt64.toUInt64 &&& Int64.toUInt64 63)).toInt64) &&& (6148914691236517205 : Int64))).toUInt64 >>> ((2 : Int32).toInt64.toUInt64 &&& Int64.toUInt64 63)).toInt64) &&& (3689348814741910323 : Int64))) + (((((x0 - (((x0.toUInt64 >>> ((1 : Int32).toInt64.toUInt64 &&& Int64.toUInt64 63)).toInt64) &&& (6148914691236517205 : Int64))) &&& (3689348814741910323 : Int64)) + ((((x0 - (((x0.toUInt64 >>> ((1 : Int32).toInt64.toUInt64 &&& Int64.toUInt64 63)).toInt64) &&& (6148914691236517205 : Int64))).toUInt64 >>> ((2 : Int32).toInt64.toUInt64 &&& Int64.toUInt64 63)).toInt64) &&& (3689348814741910323 : Int64))).toUInt64 >>> ((4 : Int32).toInt64.toUInt64 &&& Int64.toUInt64 63)).toInt64)) &&& (1085102592571150095 : Int64)).toUInt64 >>> ((8 : Int32).toInt64.toUInt64 &&& Int64.toUInt64 63)).toInt64)).toUInt64 >>> ((16 : Int32).toInt64.toUInt64 &&& Int64.toUInt64 63)).toInt64)) + (((((((((x0 - (((x0.toUInt64 >>> ((1 : Int32).toInt64.toUInt64 &&& Int64.toUInt64 63)).toInt64) &&& (6148914691236517205 : Int64))) &&& (3689348814741910323 : Int64)) + ((((x0 - (((x0.toUInt64 >>> ((1 : Int32).toInt64.toUInt64 &&& Int64.toUInt64 63)).toInt64) &&& (6148914691236517205 : Int64))).toUInt64 >>> ((2 : Int32).toInt64.toUInt64 &&& Int64.toUInt64 63)).toInt64) &&& (3689348814741910323 : Int64))) + (((((x0 - (((x0.toUInt64 >>> ((1 : Int32).toInt64.toUInt64 &&& Int64.toUInt64 63)).toInt64) &&& (6148914691236517205 : Int64))) &&& (3689348814741910323 : Int64)) + ((((x0 - (((x0.toUInt64 >>> ((1 : Int32).toInt64.toUInt64 &&& Int64.toUInt64 63)).toInt64) &&& (6148914691236517205 : Int64))).toUInt64 >>> ((2 : Int32).toInt64.toUInt64 &&& Int64.toUInt64 63)).toInt64) &&& (3689348814741910323 : Int64))).toUInt64 >>> ((4 : Int32).toInt64.toUInt64 &&& Int64.toUInt64 63)).toInt64)) &&& (1085102592571150095 : Int64)) + (((((((x0 - (((x0.toUInt64 >>> ((1 : Int32).toInt64.toUInt64 &&& Int64.toUInt64 63)).toInt64) &&& (6148914691236517205 : Int64))) &&& (3689348814741910323 : Int64)) + ((((x0 - (((x0.toUInt64 >>> ((1 : Int32).toInt64.toUInt64 &&& Int64.toUInt64 63)).toInt64) &&& (6148914691236517205 : Int64))).toUInt64 >>> ((2 : Int32).toInt64.toUInt64 &&& Int64.toUInt64 63)).toInt64) &&& (3689348814741910323 : Int64))) + (((((x0 - (((x0.toUInt64 >>> ((1 : Int32).toInt64.toUInt64 &&& Int64.toUInt64 63)).toInt64) &&& (6148914691236517205 : Int64))) &&& (3689348814741910323 : Int64)) + ((((x0 - (((x0.toUInt64 >>> ((1 : Int32).toInt64.toUInt64 &&& Int64.toUInt64 63)).toInt64) &&& (6148914691236517205 : Int64))).toUInt64 >>> ((2 : Int32).toInt64.toUInt64 &&& Int64.toUInt64 63)).toInt64) &&& (3689348814741910323 : Int64))).toUInt64 >>> ((4 : Int32).toInt64.toUInt64 &&& Int64.toUInt64 63)).toInt64)) &&& (1085102592571150095 : Int64)).toUInt64 >>> ((8 : Int32).toInt64.toUInt64 &&& Int64.toUInt64 63)).toInt64)) + ((((((((x0 - (((x0.toUInt64 >>> ((1 : Int32).toInt64.toUInt64 &&& Int64.toUInt64 63)).toInt64) &&& (6148914691236517205 : Int64))) &&& (3689348814741910323 : Int64)) + ((((x0 - (((x0.toUInt64 >>> ((1 : Int32).toInt64.toUInt64 &&& Int64.toUInt64 63)).toInt64) &&& (6148914691236517205 : Int64))).toUInt64 >>> ((2 : Int32).toInt64.toUInt64 &&& Int64.toUInt64 63)).toInt64) &&& (3689348814741910323 : Int64))) + (((((x0 - (((x0.toUInt64 >>> ((1 : Int32).toInt64.toUInt64 &&& Int64.toUInt64 63)).toInt64) &&& (6148914691236517205 : Int64))) &&& (3689348814741910323 : Int64)) + ((((x0 - (((x0.toUInt64 >>> ((1 : Int32).toInt64.toUInt64 &&& Int64.toUInt64 63)).toInt64) &&& (6148914691236517205 : Int64))).toUInt64 >>> ((2 : Int32).toInt64.toUInt64 &&& Int64.toUInt64 63)).toInt64) &&& (3689348814741910323 : Int64))).toUInt64 >>> ((4 : Int32).toInt64.toUInt64 &&& Int64.toUInt64 63)).toInt64)) &&& (1085102592571150095 : Int64)) + (((((((x0 - (((x0.toUInt64 >>> ((1 : Int32).toInt64.toUInt64 &&& Int64.toUInt64 63)).toInt64) &&& (6148914691236517205 : Int64))) &&& (3689348814741910323 : Int64)) + ((((x0 - (((x0.toUInt64 >>> ((1 : Int32).toInt64.toUInt64 &&& Int64.toUInt64 63)).toInt64) &&& (6148914691236517205 : Int64))).toUInt64 >>> ((2 : Int32).toInt64.toUInt64 &&& Int64.toUInt64 63)).toInt64) &&& (3689348814741910323 : Int64))) + (((((x0 - (((x0.toUInt64 >>> ((1 : Int32).toInt64.toUInt64 &&& Int64.toUInt64 63)).toInt64) &&& (6148914691236517205 : Int64))) &&& (3689348814741910323 : Int64)) + ((((x0 - (((x0.toUInt64 >>> ((1 : Int32).toInt64.toUInt64 &&& Int64.toUInt64 63)).toInt64) &&& (6148914691236517205 : Int64))).toUInt64 >>> ((2 : Int32).toInt64.toUInt64 &&& Int64.toUInt64 63)).toInt64) &&& (3689348814741910323 : Int64))).toUInt64 >>> ((4 : Int32).toInt64.toUInt64 &&& Int64.toUInt64 63)).toInt64)) &&& (1085102592571150095 : Int64)).toUInt64 >>> ((8 : Int32).toInt64.toUInt64 &&& Int64.toUInt64 63)).toInt64)).toUInt64 >>> ((16 : Int32).toInt64.toUInt64 &&& Int64.toUInt64 63)).toInt64)).toUInt64 >>> ((32 : Int32).toInt64.toUInt64 &&& Int64.toUInt64 63)).toInt64)))]) dJ13_bitCount_95d88_54 rfl (by decide) rfl ?_
  refine g_lload_n C0 dJ13_bitCount_95d88_55 rfl 0 rfl ?_
  refine g_l2i C0 dJ13_bitCount_95d88_56 ?_
  refine g_bipush C0 (v := (127 : Int32)) dJ13_bitCount_95d88_57 (by decide) ?_
  refine g_iand C0 dJ13_bitCount_95d88_59 ?_
  cases hf
  exact g_iret C0 rfl dJ13_bitCount_95d88_60 rfl rfl
theorem mJ13_bitCount_95d88 (l : Launch) (D : va_G) (cB cC cI cO : ClassId)    (x0 : Int64) (out : Int32) (hf : fJ13_bitCount_95d88 x0 = some out) : ∀ sz, Met l yJ13_bitCount_95d88 (ws_ yJ13_bitCount_95d88 cJ13_bitCount_95d88 2 (some .int)) rmJ13_bitCount_95d88 (va_Pc [.long x0] (hPre D (hTy cB cC cI cO) [] sz)) (hQi D [] out (va_A [] sz)) 0 0 (va_A [] sz) :=
  g_met (Qf := fun A => hQi D [] out A) (by decide +kernel) (Nat.le_of_ble_eq_true rfl) rfl (fun C0 => bJ13_bitCount_95d88 C0  out  x0 hf)
abbrev rmX5_numberVisited : Room := { frames := 2, cells := 0, slots := 0, locals := 45 }
theorem hmX5_numberVisited : hMV yX5_numberVisited cX5_numberVisited 5 (some .int) 1 := ⟨q_616, q_13, q_615, q_7, by decide, by decide, by decide +kernel⟩
theorem dX5_numberVisited_0 : decode cX5_numberVisited 0 = .ok (.lconst 0, 1) := by decide +kernel
theorem dX5_numberVisited_1 : decode cX5_numberVisited 1 = .ok (.lstore_n 2, 1) := by decide +kernel
theorem dX5_numberVisited_2 : decode cX5_numberVisited 2 = .ok (.iconst 0, 1) := by decide +kernel
theorem dX5_numberVisited_3 : decode cX5_numberVisited 3 = .ok (.istore 4, 2) := by decide +kernel
theorem dX5_numberVisited_5 : decode cX5_numberVisited 5 = .ok (.iload 4, 2) := by decide +kernel
theorem dX5_numberVisited_7 : decode cX5_numberVisited 7 = .ok (.aload_n 0, 1) := by decide +kernel
theorem dX5_numberVisited_8 : decode cX5_numberVisited 8 = .ok (.getfield 31, 3) := by decide +kernel
theorem dX5_numberVisited_11 : decode cX5_numberVisited 11 = .ok (.if_icmp .ge 21, 3) := by decide +kernel
theorem dX5_numberVisited_14 : decode cX5_numberVisited 14 = .ok (.lload_n 2, 1) := by decide +kernel
theorem dX5_numberVisited_15 : decode cX5_numberVisited 15 = .ok (.lconst 1, 1) := by decide +kernel
theorem dX5_numberVisited_16 : decode cX5_numberVisited 16 = .ok (.aload_n 0, 1) := by decide +kernel
theorem dX5_numberVisited_17 : decode cX5_numberVisited 17 = .ok (.iload_n 1, 1) := by decide +kernel
theorem dX5_numberVisited_18 : decode cX5_numberVisited 18 = .ok (.iload 4, 2) := by decide +kernel
theorem dX5_numberVisited_20 : decode cX5_numberVisited 20 = .ok (.invokevirtual 88, 3) := by decide +kernel
theorem dX5_numberVisited_23 : decode cX5_numberVisited 23 = .ok (.lshl, 1) := by decide +kernel
theorem dX5_numberVisited_24 : decode cX5_numberVisited 24 = .ok (.lor, 1) := by decide +kernel
theorem dX5_numberVisited_25 : decode cX5_numberVisited 25 = .ok (.lstore_n 2, 1) := by decide +kernel
theorem dX5_numberVisited_26 : decode cX5_numberVisited 26 = .ok (.iinc 4 1, 3) := by decide +kernel
theorem dX5_numberVisited_29 : decode cX5_numberVisited 29 = .ok (.goto (-24), 3) := by decide +kernel
theorem dX5_numberVisited_32 : decode cX5_numberVisited 32 = .ok (.lload_n 2, 1) := by decide +kernel
theorem dX5_numberVisited_33 : decode cX5_numberVisited 33 = .ok (.invokestatic 136, 3) := by decide +kernel
theorem dX5_numberVisited_36 : decode cX5_numberVisited 36 = .ok (.ireturn, 1) := by decide +kernel
set_option maxHeartbeats 4000000 in
set_option maxRecDepth 100000 in
theorem bX5_numberVisited_5 {p : Program} {l : Launch} {e : Env} {s : State} {m : MethodId} {args : Array Value} {below : List Frame} {meth : Method} {c : Code} {D : va_G} {cB cC cI cO : ClassId} {A : Nat → Prop} (C0 : gC RX5 cX5_numberVisited 5 (some .int) p s m args meth c D (hTy cB cC cI cO) A) (h0 h1 h2 h3 h4 : Nat) (out : Int32) (tlm : Int32) (tfu : Int32) (ttb : Int32) (trb : Int32) (tgr : Int32) (tK : Nat → Int32) (tV : Nat → Int32) (tO : Nat → Int32) (tW : Nat → Int32)   : ∀ (n : Nat) (tcp : Int32) (tkd : Int32) (tsd : Int32) (v1 : Int32) (v2 : Int64) (v4 : Int32), fX5_numberVisited_5 n tcp tkd tsd v1 v2 v4 = some out → gG p l e rmX5_numberVisited s m args below meth c D A 5 (MQ below (hQi D [(h0, .inr (5, [.ref h1, .ref h2, .ref h3, .ref h4, .int tcp, .int tkd, .int tsd, .int tlm, .int tfu, .int ttb, .int trb, .int tgr])), (h1, .inl (cI, 64, .inl tK)), (h2, .inl (cI, 64, .inl tV)), (h3, .inl (cI, 64, .inl tO)), (h4, .inl (cI, 64, .inl tW))] out A) args s 0 0 A) 0 0 5 [(0, .ref h0), (1, .int v1), (2, .long v2), (4, .int v4)] [] [(h0, .inr (5, [.ref h1, .ref h2, .ref h3, .ref h4, .int tcp, .int tkd, .int tsd, .int tlm, .int tfu, .int ttb, .int trb, .int tgr])), (h1, .inl (cI, 64, .inl tK)), (h2, .inl (cI, 64, .inl tV)), (h3, .inl (cI, 64, .inl tO)), (h4, .inl (cI, 64, .inl tW))] := by
  intro n
  induction n with
  | zero => intro tcp tkd tsd v1 v2 v4 hf; rw [fX5_numberVisited_5] at hf; cases hf
  | succ n ih =>
    intro tcp tkd tsd v1 v2 v4 hf
    rw [fX5_numberVisited_5] at hf
    refine g_iload C0 dX5_numberVisited_5 3 rfl ?_
    refine g_aload_n C0 dX5_numberVisited_7 rfl 0 rfl ?_
    refine g_get C0 hinX5 0 rfl rfl 4 (by decide) q_64 rfl dX5_numberVisited_8 ?_
    refine g_icmp_ge C0 (tgt := 32) dX5_numberVisited_11 (by decide) (fun c1 => ?_) (fun c1 => ?_)
    · rw [if_pos c1] at hf
      refine g_lload_n C0 dX5_numberVisited_32 rfl 2 rfl ?_
      obtain ⟨r2, er2, hf⟩ := hl_bd hf
      try dsimp only at hf
      refine g_callSi C0 (ws' := [(h0, .inr (5, [.ref h1, .ref h2, .ref h3, .ref h4, .int tcp, .int tkd, .int tsd, .int tlm, .int tfu, .int ttb, .int trb, .int tgr])), (h1, .inl (cI, 64, .inl tK)), (h2, .inl (cI, 64, .inl tV)), (h3, .inl (cI, 64, .inl tO)), (h4, .inl (cI, 64, .inl tW))]) (mJ13_bitCount_95d88 l D cB cC cI cO    v2 r2 er2) hmJ13_bitCount_95d88 q_617 ⟨Nat.le_of_ble_eq_true rfl, Nat.le_of_ble_eq_true rfl⟩ ⟨Nat.le_of_ble_eq_true rfl, Nat.le_of_ble_eq_true rfl⟩ rfl rfl [] rfl rfl rfl rfl rfl rfl (Nat.le_of_ble_eq_true rfl) dX5_numberVisited_33 ?_
      cases hf
      exact g_iret C0 rfl dX5_numberVisited_36 rfl rfl
    · rw [if_neg c1] at hf
      refine g_lload_n C0 dX5_numberVisited_14 rfl 2 rfl ?_
      refine g_lconst C0 (v := (1 : Int64)) dX5_numberVisited_15 (by decide) ?_
      refine g_aload_n C0 dX5_numberVisited_16 rfl 0 rfl ?_
      refine g_iload_n C0 dX5_numberVisited_17 rfl 1 rfl ?_
      refine g_iload C0 dX5_numberVisited_18 3 rfl ?_
      obtain ⟨r3, er3, hf⟩ := hl_bd hf
      try dsimp only at hf
      refine g_callVi C0 (ws' := [(h0, .inr (5, [.ref h1, .ref h2, .ref h3, .ref h4, .int tcp, .int tkd, .int tsd, .int tlm, .int tfu, .int ttb, .int trb, .int tgr])), (h1, .inl (cI, 64, .inl tK)), (h2, .inl (cI, 64, .inl tV)), (h3, .inl (cI, 64, .inl tO)), (h4, .inl (cI, 64, .inl tW))]) (mX5_slotInSequence l D cB cC cI cO  h0 h1 h2 h3 h4 tcp tkd tsd tlm tfu ttb trb tgr tK tV tO tW v1 v4 r3 er3) hmX5_slotInSequence q_252 ⟨Nat.le_of_ble_eq_true rfl, Nat.le_of_ble_eq_true rfl⟩ ⟨Nat.le_of_ble_eq_true rfl, Nat.le_of_ble_eq_true rfl⟩ rfl rfl [0, 1, 2, 3, 4] rfl rfl rfl rfl rfl 0 rfl rfl rfl (Nat.le_of_ble_eq_true rfl) dX5_numberVisited_20 ?_
      refine g_lshl C0 dX5_numberVisited_23 ?_
      refine g_lor C0 dX5_numberVisited_24 ?_
      refine g_lstore_n C0 (lv' := [(2, .long (v2 ||| ((1 : Int64) <<< (r3.toInt64 &&& 63)))), (0, .ref h0), (1, .int v1), (4, .int v4)]) dX5_numberVisited_25 rfl (by decide) rfl ?_
      refine g_iinc C0 (lv' := [(4, .int (v4 + (1 : Int32))), (2, .long (v2 ||| ((1 : Int64) <<< (r3.toInt64 &&& 63)))), (0, .ref h0), (1, .int v1)]) dX5_numberVisited_26 3 rfl rfl (by decide) rfl ?_
      refine g_goto C0 (tgt := 5) dX5_numberVisited_29 (by decide) ?_
      refine g_lv [2, 3, 1, 0] (lv' := [(0, .ref h0), (1, .int v1), (2, .long (v2 ||| ((1 : Int64) <<< (r3.toInt64 &&& 63)))), (4, .int (v4 + (1 : Int32)))]) rfl ?_
      exact ih tcp tkd tsd v1 (v2 ||| ((1 : Int64) <<< (r3.toInt64 &&& 63))) (v4 + (1 : Int32)) hf
set_option maxHeartbeats 4000000 in
set_option maxRecDepth 100000 in
theorem bX5_numberVisited {p : Program} {l : Launch} {e : Env} {s : State} {m : MethodId} {args : Array Value} {below : List Frame} {meth : Method} {c : Code} {D : va_G} {cB cC cI cO : ClassId} {A : Nat → Prop} (C0 : gC RX5 cX5_numberVisited 5 (some .int) p s m args meth c D (hTy cB cC cI cO) A) (h0 h1 h2 h3 h4 : Nat) (out : Int32) (tcp : Int32) (tkd : Int32) (tsd : Int32) (tlm : Int32) (tfu : Int32) (ttb : Int32) (trb : Int32) (tgr : Int32) (tK : Nat → Int32) (tV : Nat → Int32) (tO : Nat → Int32) (tW : Nat → Int32) (x0 : Int32) (hf : fX5_numberVisited tcp tkd tsd x0 = some out) : gG p l e rmX5_numberVisited s m args below meth c D A 5 (MQ below (hQi D [(h0, .inr (5, [.ref h1, .ref h2, .ref h3, .ref h4, .int tcp, .int tkd, .int tsd, .int tlm, .int tfu, .int ttb, .int trb, .int tgr])), (h1, .inl (cI, 64, .inl tK)), (h2, .inl (cI, 64, .inl tV)), (h3, .inl (cI, 64, .inl tO)), (h4, .inl (cI, 64, .inl tW))] out A) args s 0 0 A) 0 0 0 [(0, .ref h0), (1, .int x0)] [] [(h0, .inr (5, [.ref h1, .ref h2, .ref h3, .ref h4, .int tcp, .int tkd, .int tsd, .int tlm, .int tfu, .int ttb, .int trb, .int tgr])), (h1, .inl (cI, 64, .inl tK)), (h2, .inl (cI, 64, .inl tV)), (h3, .inl (cI, 64, .inl tO)), (h4, .inl (cI, 64, .inl tW))] := by
  unfold fX5_numberVisited at hf
  refine g_lconst C0 (v := (0 : Int64)) dX5_numberVisited_0 (by decide) ?_
  refine g_lstore_n C0 (lv' := [(2, .long (0 : Int64)), (0, .ref h0), (1, .int x0)]) dX5_numberVisited_1 rfl (by decide) rfl ?_
  refine g_iconst C0 (v := (0 : Int32)) dX5_numberVisited_2 (by decide) ?_
  refine g_istore C0 (lv' := [(4, .int (0 : Int32)), (2, .long (0 : Int64)), (0, .ref h0), (1, .int x0)]) dX5_numberVisited_3 (by decide) rfl ?_
  refine g_lv [2, 3, 1, 0] (lv' := [(0, .ref h0), (1, .int x0), (2, .long (0 : Int64)), (4, .int (0 : Int32))]) rfl ?_
  exact bX5_numberVisited_5 C0 h0 h1 h2 h3 h4 out tlm tfu ttb trb tgr tK tV tO tW  1000 tcp tkd tsd x0 (0 : Int64) (0 : Int32) hf
theorem mX5_numberVisited (l : Launch) (D : va_G) (cB cC cI cO : ClassId)  (h0 h1 h2 h3 h4 : Nat) (tcp : Int32) (tkd : Int32) (tsd : Int32) (tlm : Int32) (tfu : Int32) (ttb : Int32) (trb : Int32) (tgr : Int32) (tK : Nat → Int32) (tV : Nat → Int32) (tO : Nat → Int32) (tW : Nat → Int32) (x0 : Int32) (out : Int32) (hf : fX5_numberVisited tcp tkd tsd x0 = some out) : ∀ sz, Met l yX5_numberVisited (ws_ yX5_numberVisited cX5_numberVisited 5 (some .int)) rmX5_numberVisited (va_Pc [.ref h0, .int x0] (hPre D (hTy cB cC cI cO) [(h0, .inr (5, [.ref h1, .ref h2, .ref h3, .ref h4, .int tcp, .int tkd, .int tsd, .int tlm, .int tfu, .int ttb, .int trb, .int tgr])), (h1, .inl (cI, 64, .inl tK)), (h2, .inl (cI, 64, .inl tV)), (h3, .inl (cI, 64, .inl tO)), (h4, .inl (cI, 64, .inl tW))] sz)) (hQi D [(h0, .inr (5, [.ref h1, .ref h2, .ref h3, .ref h4, .int tcp, .int tkd, .int tsd, .int tlm, .int tfu, .int ttb, .int trb, .int tgr])), (h1, .inl (cI, 64, .inl tK)), (h2, .inl (cI, 64, .inl tV)), (h3, .inl (cI, 64, .inl tO)), (h4, .inl (cI, 64, .inl tW))] out (va_A [(h0, .inr (5, [.ref h1, .ref h2, .ref h3, .ref h4, .int tcp, .int tkd, .int tsd, .int tlm, .int tfu, .int ttb, .int trb, .int tgr])), (h1, .inl (cI, 64, .inl tK)), (h2, .inl (cI, 64, .inl tV)), (h3, .inl (cI, 64, .inl tO)), (h4, .inl (cI, 64, .inl tW))] sz)) 0 0 (va_A [(h0, .inr (5, [.ref h1, .ref h2, .ref h3, .ref h4, .int tcp, .int tkd, .int tsd, .int tlm, .int tfu, .int ttb, .int trb, .int tgr])), (h1, .inl (cI, 64, .inl tK)), (h2, .inl (cI, 64, .inl tV)), (h3, .inl (cI, 64, .inl tO)), (h4, .inl (cI, 64, .inl tW))] sz) :=
  g_met (Qf := fun A => hQi D [(h0, .inr (5, [.ref h1, .ref h2, .ref h3, .ref h4, .int tcp, .int tkd, .int tsd, .int tlm, .int tfu, .int ttb, .int trb, .int tgr])), (h1, .inl (cI, 64, .inl tK)), (h2, .inl (cI, 64, .inl tV)), (h3, .inl (cI, 64, .inl tO)), (h4, .inl (cI, 64, .inl tW))] out A) (by decide +kernel) (Nat.le_of_ble_eq_true rfl) rfl (fun C0 => bX5_numberVisited C0 h0 h1 h2 h3 h4 out tcp tkd tsd tlm tfu ttb trb tgr tK tV tO tW x0 hf)
abbrev rmX5_sequencesVisitAllSlots : Room := { frames := 3, cells := 0, slots := 0, locals := 69 }
theorem hmX5_sequencesVisitAllSlots : hMV yX5_sequencesVisitAllSlots cX5_sequencesVisitAllSlots 2 (some .boolean) 0 := ⟨q_612, q_13, q_610, q_611, by decide, by decide, by decide +kernel⟩
theorem dX5_sequencesVisitAllSlots_0 : decode cX5_sequencesVisitAllSlots 0 = .ok (.iconst 0, 1) := by decide +kernel
theorem dX5_sequencesVisitAllSlots_1 : decode cX5_sequencesVisitAllSlots 1 = .ok (.istore_n 1, 1) := by decide +kernel
theorem dX5_sequencesVisitAllSlots_2 : decode cX5_sequencesVisitAllSlots 2 = .ok (.iload_n 1, 1) := by decide +kernel
theorem dX5_sequencesVisitAllSlots_3 : decode cX5_sequencesVisitAllSlots 3 = .ok (.aload_n 0, 1) := by decide +kernel
theorem dX5_sequencesVisitAllSlots_4 : decode cX5_sequencesVisitAllSlots 4 = .ok (.getfield 31, 3) := by decide +kernel
theorem dX5_sequencesVisitAllSlots_7 : decode cX5_sequencesVisitAllSlots 7 = .ok (.if_icmp .ge 35, 3) := by decide +kernel
theorem dX5_sequencesVisitAllSlots_10 : decode cX5_sequencesVisitAllSlots 10 = .ok (.aload_n 0, 1) := by decide +kernel
theorem dX5_sequencesVisitAllSlots_11 : decode cX5_sequencesVisitAllSlots 11 = .ok (.iload_n 1, 1) := by decide +kernel
theorem dX5_sequencesVisitAllSlots_12 : decode cX5_sequencesVisitAllSlots 12 = .ok (.invokevirtual 97, 3) := by decide +kernel
theorem dX5_sequencesVisitAllSlots_15 : decode cX5_sequencesVisitAllSlots 15 = .ok (.ifCond .eq 21, 3) := by decide +kernel
theorem dX5_sequencesVisitAllSlots_18 : decode cX5_sequencesVisitAllSlots 18 = .ok (.aload_n 0, 1) := by decide +kernel
theorem dX5_sequencesVisitAllSlots_19 : decode cX5_sequencesVisitAllSlots 19 = .ok (.aload_n 0, 1) := by decide +kernel
theorem dX5_sequencesVisitAllSlots_20 : decode cX5_sequencesVisitAllSlots 20 = .ok (.iload_n 1, 1) := by decide +kernel
theorem dX5_sequencesVisitAllSlots_21 : decode cX5_sequencesVisitAllSlots 21 = .ok (.invokevirtual 69, 3) := by decide +kernel
theorem dX5_sequencesVisitAllSlots_24 : decode cX5_sequencesVisitAllSlots 24 = .ok (.invokevirtual 128, 3) := by decide +kernel
theorem dX5_sequencesVisitAllSlots_27 : decode cX5_sequencesVisitAllSlots 27 = .ok (.aload_n 0, 1) := by decide +kernel
theorem dX5_sequencesVisitAllSlots_28 : decode cX5_sequencesVisitAllSlots 28 = .ok (.getfield 31, 3) := by decide +kernel
theorem dX5_sequencesVisitAllSlots_31 : decode cX5_sequencesVisitAllSlots 31 = .ok (.if_icmp .eq 5, 3) := by decide +kernel
theorem dX5_sequencesVisitAllSlots_34 : decode cX5_sequencesVisitAllSlots 34 = .ok (.iconst 0, 1) := by decide +kernel
theorem dX5_sequencesVisitAllSlots_35 : decode cX5_sequencesVisitAllSlots 35 = .ok (.ireturn, 1) := by decide +kernel
theorem dX5_sequencesVisitAllSlots_36 : decode cX5_sequencesVisitAllSlots 36 = .ok (.iinc 1 1, 3) := by decide +kernel
theorem dX5_sequencesVisitAllSlots_39 : decode cX5_sequencesVisitAllSlots 39 = .ok (.goto (-37), 3) := by decide +kernel
theorem dX5_sequencesVisitAllSlots_42 : decode cX5_sequencesVisitAllSlots 42 = .ok (.iconst 1, 1) := by decide +kernel
theorem dX5_sequencesVisitAllSlots_43 : decode cX5_sequencesVisitAllSlots 43 = .ok (.ireturn, 1) := by decide +kernel
set_option maxHeartbeats 4000000 in
set_option maxRecDepth 100000 in
theorem bX5_sequencesVisitAllSlots_36 {p : Program} {l : Launch} {e : Env} {s : State} {m : MethodId} {args : Array Value} {below : List Frame} {meth : Method} {c : Code} {D : va_G} {cB cC cI cO : ClassId} {A : Nat → Prop} (C0 : gC RX5 cX5_sequencesVisitAllSlots 2 (some .boolean) p s m args meth c D (hTy cB cC cI cO) A) (h0 h1 h2 h3 h4 : Nat) (out : Int32) (tlm : Int32) (tfu : Int32) (ttb : Int32) (trb : Int32) (tgr : Int32) (tV : Nat → Int32) (tO : Nat → Int32) (tW : Nat → Int32) (rec2 : Int32 → Int32 → Int32 → (Nat → Int32) → Int32 → Option (Int32)) (hrec2 : ∀ (tcp : Int32) (tkd : Int32) (tsd : Int32) (tK : Nat → Int32) (v1 : Int32), rec2 tcp tkd tsd tK v1 = some out → gG p l e rmX5_sequencesVisitAllSlots s m args below meth c D A 2 (MQ below (hQi D [(h0, .inr (5, [.ref h1, .ref h2, .ref h3, .ref h4, .int tcp, .int tkd, .int tsd, .int tlm, .int tfu, .int ttb, .int trb, .int tgr])), (h1, .inl (cI, 64, .inl tK)), (h2, .inl (cI, 64, .inl tV)), (h3, .inl (cI, 64, .inl tO)), (h4, .inl (cI, 64, .inl tW))] out A) args s 0 0 A) 0 0 2 [(0, .ref h0), (1, .int v1)] [] [(h0, .inr (5, [.ref h1, .ref h2, .ref h3, .ref h4, .int tcp, .int tkd, .int tsd, .int tlm, .int tfu, .int ttb, .int trb, .int tgr])), (h1, .inl (cI, 64, .inl tK)), (h2, .inl (cI, 64, .inl tV)), (h3, .inl (cI, 64, .inl tO)), (h4, .inl (cI, 64, .inl tW))]) : ∀ (tcp : Int32) (tkd : Int32) (tsd : Int32) (tK : Nat → Int32) (v1 : Int32), fX5_sequencesVisitAllSlots_36 rec2 tcp tkd tsd tK v1 = some out → gG p l e rmX5_sequencesVisitAllSlots s m args below meth c D A 2 (MQ below (hQi D [(h0, .inr (5, [.ref h1, .ref h2, .ref h3, .ref h4, .int tcp, .int tkd, .int tsd, .int tlm, .int tfu, .int ttb, .int trb, .int tgr])), (h1, .inl (cI, 64, .inl tK)), (h2, .inl (cI, 64, .inl tV)), (h3, .inl (cI, 64, .inl tO)), (h4, .inl (cI, 64, .inl tW))] out A) args s 0 0 A) 0 0 36 [(0, .ref h0), (1, .int v1)] [] [(h0, .inr (5, [.ref h1, .ref h2, .ref h3, .ref h4, .int tcp, .int tkd, .int tsd, .int tlm, .int tfu, .int ttb, .int trb, .int tgr])), (h1, .inl (cI, 64, .inl tK)), (h2, .inl (cI, 64, .inl tV)), (h3, .inl (cI, 64, .inl tO)), (h4, .inl (cI, 64, .inl tW))] := by
  intro tcp tkd tsd tK v1 hf
  unfold fX5_sequencesVisitAllSlots_36 at hf
  refine g_iinc C0 (lv' := [(1, .int (v1 + (1 : Int32))), (0, .ref h0)]) dX5_sequencesVisitAllSlots_36 1 rfl rfl (by decide) rfl ?_
  refine g_goto C0 (tgt := 2) dX5_sequencesVisitAllSlots_39 (by decide) ?_
  refine g_lv [1, 0] (lv' := [(0, .ref h0), (1, .int (v1 + (1 : Int32)))]) rfl ?_
  exact hrec2 tcp tkd tsd tK (v1 + (1 : Int32)) hf
set_option maxHeartbeats 4000000 in
set_option maxRecDepth 100000 in
theorem bX5_sequencesVisitAllSlots_2 {p : Program} {l : Launch} {e : Env} {s : State} {m : MethodId} {args : Array Value} {below : List Frame} {meth : Method} {c : Code} {D : va_G} {cB cC cI cO : ClassId} {A : Nat → Prop} (C0 : gC RX5 cX5_sequencesVisitAllSlots 2 (some .boolean) p s m args meth c D (hTy cB cC cI cO) A) (h0 h1 h2 h3 h4 : Nat) (out : Int32) (tlm : Int32) (tfu : Int32) (ttb : Int32) (trb : Int32) (tgr : Int32) (tV : Nat → Int32) (tO : Nat → Int32) (tW : Nat → Int32)   : ∀ (n : Nat) (tcp : Int32) (tkd : Int32) (tsd : Int32) (tK : Nat → Int32) (v1 : Int32), fX5_sequencesVisitAllSlots_2 n tcp tkd tsd tK v1 = some out → gG p l e rmX5_sequencesVisitAllSlots s m args below meth c D A 2 (MQ below (hQi D [(h0, .inr (5, [.ref h1, .ref h2, .ref h3, .ref h4, .int tcp, .int tkd, .int tsd, .int tlm, .int tfu, .int ttb, .int trb, .int tgr])), (h1, .inl (cI, 64, .inl tK)), (h2, .inl (cI, 64, .inl tV)), (h3, .inl (cI, 64, .inl tO)), (h4, .inl (cI, 64, .inl tW))] out A) args s 0 0 A) 0 0 2 [(0, .ref h0), (1, .int v1)] [] [(h0, .inr (5, [.ref h1, .ref h2, .ref h3, .ref h4, .int tcp, .int tkd, .int tsd, .int tlm, .int tfu, .int ttb, .int trb, .int tgr])), (h1, .inl (cI, 64, .inl tK)), (h2, .inl (cI, 64, .inl tV)), (h3, .inl (cI, 64, .inl tO)), (h4, .inl (cI, 64, .inl tW))] := by
  intro n
  induction n with
  | zero => intro tcp tkd tsd tK v1 hf; rw [fX5_sequencesVisitAllSlots_2] at hf; cases hf
  | succ n ih =>
    intro tcp tkd tsd tK v1 hf
    rw [fX5_sequencesVisitAllSlots_2] at hf
    refine g_iload_n C0 dX5_sequencesVisitAllSlots_2 rfl 1 rfl ?_
    refine g_aload_n C0 dX5_sequencesVisitAllSlots_3 rfl 0 rfl ?_
    refine g_get C0 hinX5 0 rfl rfl 4 (by decide) q_64 rfl dX5_sequencesVisitAllSlots_4 ?_
    refine g_icmp_ge C0 (tgt := 42) dX5_sequencesVisitAllSlots_7 (by decide) (fun c1 => ?_) (fun c1 => ?_)
    · rw [if_pos c1] at hf
      refine g_iconst C0 (v := (1 : Int32)) dX5_sequencesVisitAllSlots_42 (by decide) ?_
      cases hf
      exact g_iret C0 rfl dX5_sequencesVisitAllSlots_43 rfl rfl
    · rw [if_neg c1] at hf
      refine g_aload_n C0 dX5_sequencesVisitAllSlots_10 rfl 0 rfl ?_
      refine g_iload_n C0 dX5_sequencesVisitAllSlots_11 rfl 1 rfl ?_
      obtain ⟨r2, er2, hf⟩ := hl_bd hf
      try dsimp only at hf
      refine g_callVi C0 (ws' := [(h0, .inr (5, [.ref h1, .ref h2, .ref h3, .ref h4, .int tcp, .int tkd, .int tsd, .int tlm, .int tfu, .int ttb, .int trb, .int tgr])), (h1, .inl (cI, 64, .inl tK)), (h2, .inl (cI, 64, .inl tV)), (h3, .inl (cI, 64, .inl tO)), (h4, .inl (cI, 64, .inl tW))]) (mX5_isFullSlot l D cB cC cI cO  h0 h1 h2 h3 h4 tcp tkd tsd tlm tfu ttb trb tgr tK tV tO tW v1 r2 er2) hmX5_isFullSlot q_434 ⟨Nat.le_of_ble_eq_true rfl, Nat.le_of_ble_eq_true rfl⟩ ⟨Nat.le_of_ble_eq_true rfl, Nat.le_of_ble_eq_true rfl⟩ rfl rfl [0, 1, 2, 3, 4] rfl rfl rfl rfl rfl 0 rfl rfl rfl (Nat.le_of_ble_eq_true rfl) dX5_sequencesVisitAllSlots_12 ?_
      refine g_if_eq C0 (tgt := 36) dX5_sequencesVisitAllSlots_15 (by decide) (fun c3 => ?_) (fun c3 => ?_)
      · rw [if_pos c3] at hf
        refine g_lv [0, 1] (lv' := [(0, .ref h0), (1, .int v1)]) rfl ?_
        exact bX5_sequencesVisitAllSlots_36 C0 h0 h1 h2 h3 h4 out tlm tfu ttb trb tgr tV tO tW (fX5_sequencesVisitAllSlots_2 n) ih  tcp tkd tsd tK v1 hf
      · rw [if_neg c3] at hf
        refine g_aload_n C0 dX5_sequencesVisitAllSlots_18 rfl 0 rfl ?_
        refine g_aload_n C0 dX5_sequencesVisitAllSlots_19 rfl 0 rfl ?_
        refine g_iload_n C0 dX5_sequencesVisitAllSlots_20 rfl 1 rfl ?_
        obtain ⟨r4, er4, hf⟩ := hl_bd hf
        try dsimp only at hf
        refine g_callVi C0 (ws' := [(h0, .inr (5, [.ref h1, .ref h2, .ref h3, .ref h4, .int tcp, .int tkd, .int tsd, .int tlm, .int tfu, .int ttb, .int trb, .int tgr])), (h1, .inl (cI, 64, .inl tK)), (h2, .inl (cI, 64, .inl tV)), (h3, .inl (cI, 64, .inl tO)), (h4, .inl (cI, 64, .inl tW))]) (mX5_content l D cB cC cI cO  h0 h1 h2 h3 h4 tcp tkd tsd tlm tfu ttb trb tgr tK tV tO tW v1 r4 er4) hmX5_content q_274 ⟨Nat.le_of_ble_eq_true rfl, Nat.le_of_ble_eq_true rfl⟩ ⟨Nat.le_of_ble_eq_true rfl, Nat.le_of_ble_eq_true rfl⟩ rfl rfl [0, 1, 2, 3, 4] rfl rfl rfl rfl rfl 0 rfl rfl rfl (Nat.le_of_ble_eq_true rfl) dX5_sequencesVisitAllSlots_21 ?_
        obtain ⟨r5, er5, hf⟩ := hl_bd hf
        try dsimp only at hf
        refine g_callVi C0 (ws' := [(h0, .inr (5, [.ref h1, .ref h2, .ref h3, .ref h4, .int tcp, .int tkd, .int tsd, .int tlm, .int tfu, .int ttb, .int trb, .int tgr])), (h1, .inl (cI, 64, .inl tK)), (h2, .inl (cI, 64, .inl tV)), (h3, .inl (cI, 64, .inl tO)), (h4, .inl (cI, 64, .inl tW))]) (mX5_numberVisited l D cB cC cI cO  h0 h1 h2 h3 h4 tcp tkd tsd tlm tfu ttb trb tgr tK tV tO tW r4 r5 er5) hmX5_numberVisited q_613 ⟨Nat.le_of_ble_eq_true rfl, Nat.le_of_ble_eq_true rfl⟩ ⟨Nat.le_of_ble_eq_true rfl, Nat.le_of_ble_eq_true rfl⟩ rfl rfl [0, 1, 2, 3, 4] rfl rfl rfl rfl rfl 0 rfl rfl rfl (Nat.le_of_ble_eq_true rfl) dX5_sequencesVisitAllSlots_24 ?_
        refine g_aload_n C0 dX5_sequencesVisitAllSlots_27 rfl 0 rfl ?_
        refine g_get C0 hinX5 0 rfl rfl 4 (by decide) q_64 rfl dX5_sequencesVisitAllSlots_28 ?_
        refine g_icmp_eq C0 (tgt := 36) dX5_sequencesVisitAllSlots_31 (by decide) (fun c6 => ?_) (fun c6 => ?_)
        · rw [if_pos c6] at hf
          refine g_lv [0, 1] (lv' := [(0, .ref h0), (1, .int v1)]) rfl ?_
          exact bX5_sequencesVisitAllSlots_36 C0 h0 h1 h2 h3 h4 out tlm tfu ttb trb tgr tV tO tW (fX5_sequencesVisitAllSlots_2 n) ih  tcp tkd tsd tK v1 hf
        · rw [if_neg c6] at hf
          refine g_iconst C0 (v := (0 : Int32)) dX5_sequencesVisitAllSlots_34 (by decide) ?_
          cases hf
          exact g_iret C0 rfl dX5_sequencesVisitAllSlots_35 rfl rfl
set_option maxHeartbeats 4000000 in
set_option maxRecDepth 100000 in
theorem bX5_sequencesVisitAllSlots {p : Program} {l : Launch} {e : Env} {s : State} {m : MethodId} {args : Array Value} {below : List Frame} {meth : Method} {c : Code} {D : va_G} {cB cC cI cO : ClassId} {A : Nat → Prop} (C0 : gC RX5 cX5_sequencesVisitAllSlots 2 (some .boolean) p s m args meth c D (hTy cB cC cI cO) A) (h0 h1 h2 h3 h4 : Nat) (out : Int32) (tcp : Int32) (tkd : Int32) (tsd : Int32) (tlm : Int32) (tfu : Int32) (ttb : Int32) (trb : Int32) (tgr : Int32) (tK : Nat → Int32) (tV : Nat → Int32) (tO : Nat → Int32) (tW : Nat → Int32)  (hf : fX5_sequencesVisitAllSlots tcp tkd tsd tK = some out) : gG p l e rmX5_sequencesVisitAllSlots s m args below meth c D A 2 (MQ below (hQi D [(h0, .inr (5, [.ref h1, .ref h2, .ref h3, .ref h4, .int tcp, .int tkd, .int tsd, .int tlm, .int tfu, .int ttb, .int trb, .int tgr])), (h1, .inl (cI, 64, .inl tK)), (h2, .inl (cI, 64, .inl tV)), (h3, .inl (cI, 64, .inl tO)), (h4, .inl (cI, 64, .inl tW))] out A) args s 0 0 A) 0 0 0 [(0, .ref h0)] [] [(h0, .inr (5, [.ref h1, .ref h2, .ref h3, .ref h4, .int tcp, .int tkd, .int tsd, .int tlm, .int tfu, .int ttb, .int trb, .int tgr])), (h1, .inl (cI, 64, .inl tK)), (h2, .inl (cI, 64, .inl tV)), (h3, .inl (cI, 64, .inl tO)), (h4, .inl (cI, 64, .inl tW))] := by
  unfold fX5_sequencesVisitAllSlots at hf
  refine g_iconst C0 (v := (0 : Int32)) dX5_sequencesVisitAllSlots_0 (by decide) ?_
  refine g_istore_n C0 (lv' := [(1, .int (0 : Int32)), (0, .ref h0)]) dX5_sequencesVisitAllSlots_1 rfl (by decide) rfl ?_
  refine g_lv [1, 0] (lv' := [(0, .ref h0), (1, .int (0 : Int32))]) rfl ?_
  exact bX5_sequencesVisitAllSlots_2 C0 h0 h1 h2 h3 h4 out tlm tfu ttb trb tgr tV tO tW  1000 tcp tkd tsd tK (0 : Int32) hf
theorem mX5_sequencesVisitAllSlots (l : Launch) (D : va_G) (cB cC cI cO : ClassId)  (h0 h1 h2 h3 h4 : Nat) (tcp : Int32) (tkd : Int32) (tsd : Int32) (tlm : Int32) (tfu : Int32) (ttb : Int32) (trb : Int32) (tgr : Int32) (tK : Nat → Int32) (tV : Nat → Int32) (tO : Nat → Int32) (tW : Nat → Int32)  (out : Int32) (hf : fX5_sequencesVisitAllSlots tcp tkd tsd tK = some out) : ∀ sz, Met l yX5_sequencesVisitAllSlots (ws_ yX5_sequencesVisitAllSlots cX5_sequencesVisitAllSlots 2 (some .boolean)) rmX5_sequencesVisitAllSlots (va_Pc [.ref h0] (hPre D (hTy cB cC cI cO) [(h0, .inr (5, [.ref h1, .ref h2, .ref h3, .ref h4, .int tcp, .int tkd, .int tsd, .int tlm, .int tfu, .int ttb, .int trb, .int tgr])), (h1, .inl (cI, 64, .inl tK)), (h2, .inl (cI, 64, .inl tV)), (h3, .inl (cI, 64, .inl tO)), (h4, .inl (cI, 64, .inl tW))] sz)) (hQi D [(h0, .inr (5, [.ref h1, .ref h2, .ref h3, .ref h4, .int tcp, .int tkd, .int tsd, .int tlm, .int tfu, .int ttb, .int trb, .int tgr])), (h1, .inl (cI, 64, .inl tK)), (h2, .inl (cI, 64, .inl tV)), (h3, .inl (cI, 64, .inl tO)), (h4, .inl (cI, 64, .inl tW))] out (va_A [(h0, .inr (5, [.ref h1, .ref h2, .ref h3, .ref h4, .int tcp, .int tkd, .int tsd, .int tlm, .int tfu, .int ttb, .int trb, .int tgr])), (h1, .inl (cI, 64, .inl tK)), (h2, .inl (cI, 64, .inl tV)), (h3, .inl (cI, 64, .inl tO)), (h4, .inl (cI, 64, .inl tW))] sz)) 0 0 (va_A [(h0, .inr (5, [.ref h1, .ref h2, .ref h3, .ref h4, .int tcp, .int tkd, .int tsd, .int tlm, .int tfu, .int ttb, .int trb, .int tgr])), (h1, .inl (cI, 64, .inl tK)), (h2, .inl (cI, 64, .inl tV)), (h3, .inl (cI, 64, .inl tO)), (h4, .inl (cI, 64, .inl tW))] sz) :=
  g_met (Qf := fun A => hQi D [(h0, .inr (5, [.ref h1, .ref h2, .ref h3, .ref h4, .int tcp, .int tkd, .int tsd, .int tlm, .int tfu, .int ttb, .int trb, .int tgr])), (h1, .inl (cI, 64, .inl tK)), (h2, .inl (cI, 64, .inl tV)), (h3, .inl (cI, 64, .inl tO)), (h4, .inl (cI, 64, .inl tW))] out A) (by decide +kernel) (Nat.le_of_ble_eq_true rfl) rfl (fun C0 => bX5_sequencesVisitAllSlots C0 h0 h1 h2 h3 h4 out tcp tkd tsd tlm tfu ttb trb tgr tK tV tO tW  hf)
abbrev rmX5_hasKeysOf : Room := { frames := 4, cells := 0, slots := 0, locals := 90 }
theorem hmX5_hasKeysOf : hMV yX5_hasKeysOf cX5_hasKeysOf 3 (some .boolean) 1 := ⟨q_638, q_13, q_636, q_637, by decide, by decide, by decide +kernel⟩
theorem dX5_hasKeysOf_0 : decode cX5_hasKeysOf 0 = .ok (.iconst 0, 1) := by decide +kernel
theorem dX5_hasKeysOf_1 : decode cX5_hasKeysOf 1 = .ok (.istore_n 2, 1) := by decide +kernel
theorem dX5_hasKeysOf_2 : decode cX5_hasKeysOf 2 = .ok (.iload_n 2, 1) := by decide +kernel
theorem dX5_hasKeysOf_3 : decode cX5_hasKeysOf 3 = .ok (.aload_n 1, 1) := by decide +kernel
theorem dX5_hasKeysOf_4 : decode cX5_hasKeysOf 4 = .ok (.getfield 31, 3) := by decide +kernel
theorem dX5_hasKeysOf_7 : decode cX5_hasKeysOf 7 = .ok (.if_icmp .ge 32, 3) := by decide +kernel
theorem dX5_hasKeysOf_10 : decode cX5_hasKeysOf 10 = .ok (.aload_n 1, 1) := by decide +kernel
theorem dX5_hasKeysOf_11 : decode cX5_hasKeysOf 11 = .ok (.iload_n 2, 1) := by decide +kernel
theorem dX5_hasKeysOf_12 : decode cX5_hasKeysOf 12 = .ok (.invokevirtual 97, 3) := by decide +kernel
theorem dX5_hasKeysOf_15 : decode cX5_hasKeysOf 15 = .ok (.ifCond .eq 18, 3) := by decide +kernel
theorem dX5_hasKeysOf_18 : decode cX5_hasKeysOf 18 = .ok (.aload_n 0, 1) := by decide +kernel
theorem dX5_hasKeysOf_19 : decode cX5_hasKeysOf 19 = .ok (.aload_n 1, 1) := by decide +kernel
theorem dX5_hasKeysOf_20 : decode cX5_hasKeysOf 20 = .ok (.iload_n 2, 1) := by decide +kernel
theorem dX5_hasKeysOf_21 : decode cX5_hasKeysOf 21 = .ok (.invokevirtual 69, 3) := by decide +kernel
theorem dX5_hasKeysOf_24 : decode cX5_hasKeysOf 24 = .ok (.invokevirtual 112, 3) := by decide +kernel
theorem dX5_hasKeysOf_27 : decode cX5_hasKeysOf 27 = .ok (.iconst (-1), 1) := by decide +kernel
theorem dX5_hasKeysOf_28 : decode cX5_hasKeysOf 28 = .ok (.if_icmp .ne 5, 3) := by decide +kernel
theorem dX5_hasKeysOf_31 : decode cX5_hasKeysOf 31 = .ok (.iconst 0, 1) := by decide +kernel
theorem dX5_hasKeysOf_32 : decode cX5_hasKeysOf 32 = .ok (.ireturn, 1) := by decide +kernel
theorem dX5_hasKeysOf_33 : decode cX5_hasKeysOf 33 = .ok (.iinc 2 1, 3) := by decide +kernel
theorem dX5_hasKeysOf_36 : decode cX5_hasKeysOf 36 = .ok (.goto (-34), 3) := by decide +kernel
theorem dX5_hasKeysOf_39 : decode cX5_hasKeysOf 39 = .ok (.aload_n 0, 1) := by decide +kernel
theorem dX5_hasKeysOf_40 : decode cX5_hasKeysOf 40 = .ok (.getfield 49, 3) := by decide +kernel
theorem dX5_hasKeysOf_43 : decode cX5_hasKeysOf 43 = .ok (.aload_n 1, 1) := by decide +kernel
theorem dX5_hasKeysOf_44 : decode cX5_hasKeysOf 44 = .ok (.getfield 49, 3) := by decide +kernel
theorem dX5_hasKeysOf_47 : decode cX5_hasKeysOf 47 = .ok (.if_icmp .ne 7, 3) := by decide +kernel
theorem dX5_hasKeysOf_50 : decode cX5_hasKeysOf 50 = .ok (.iconst 1, 1) := by decide +kernel
theorem dX5_hasKeysOf_51 : decode cX5_hasKeysOf 51 = .ok (.goto 4, 3) := by decide +kernel
theorem dX5_hasKeysOf_54 : decode cX5_hasKeysOf 54 = .ok (.iconst 0, 1) := by decide +kernel
theorem dX5_hasKeysOf_55 : decode cX5_hasKeysOf 55 = .ok (.ireturn, 1) := by decide +kernel
set_option maxHeartbeats 4000000 in
set_option maxRecDepth 100000 in
theorem bX5_hasKeysOf_33 {p : Program} {l : Launch} {e : Env} {s : State} {m : MethodId} {args : Array Value} {below : List Frame} {meth : Method} {c : Code} {D : va_G} {cB cC cI cO : ClassId} {A : Nat → Prop} (C0 : gC RX5 cX5_hasKeysOf 3 (some .boolean) p s m args meth c D (hTy cB cC cI cO) A) (h0 h1 h2 h3 h4 g0 g1 g2 g3 g4 : Nat) (out : Int32) (tlm : Int32) (ttb : Int32) (trb : Int32) (tgr : Int32) (tV : Nat → Int32) (tO : Nat → Int32) (tW : Nat → Int32) (okd : Int32) (osd : Int32) (olm : Int32) (otb : Int32) (orb : Int32) (ogr : Int32) (oV : Nat → Int32) (oO : Nat → Int32) (oW : Nat → Int32) (rec2 : Int32 → Int32 → Int32 → Int32 → (Nat → Int32) → Int32 → Int32 → (Nat → Int32) → Int32 → Option (Int32)) (hrec2 : ∀ (tcp : Int32) (tkd : Int32) (tsd : Int32) (tfu : Int32) (tK : Nat → Int32) (ocp : Int32) (ofu : Int32) (oK : Nat → Int32) (v2 : Int32), rec2 tcp tkd tsd tfu tK ocp ofu oK v2 = some out → gG p l e rmX5_hasKeysOf s m args below meth c D A 3 (MQ below (hQi D [(h0, .inr (5, [.ref h1, .ref h2, .ref h3, .ref h4, .int tcp, .int tkd, .int tsd, .int tlm, .int tfu, .int ttb, .int trb, .int tgr])), (h1, .inl (cI, 64, .inl tK)), (h2, .inl (cI, 64, .inl tV)), (h3, .inl (cI, 64, .inl tO)), (h4, .inl (cI, 64, .inl tW)), (g0, .inr (5, [.ref g1, .ref g2, .ref g3, .ref g4, .int ocp, .int okd, .int osd, .int olm, .int ofu, .int otb, .int orb, .int ogr])), (g1, .inl (cI, 64, .inl oK)), (g2, .inl (cI, 64, .inl oV)), (g3, .inl (cI, 64, .inl oO)), (g4, .inl (cI, 64, .inl oW))] out A) args s 0 0 A) 0 0 2 [(0, .ref h0), (1, .ref g0), (2, .int v2)] [] [(h0, .inr (5, [.ref h1, .ref h2, .ref h3, .ref h4, .int tcp, .int tkd, .int tsd, .int tlm, .int tfu, .int ttb, .int trb, .int tgr])), (h1, .inl (cI, 64, .inl tK)), (h2, .inl (cI, 64, .inl tV)), (h3, .inl (cI, 64, .inl tO)), (h4, .inl (cI, 64, .inl tW)), (g0, .inr (5, [.ref g1, .ref g2, .ref g3, .ref g4, .int ocp, .int okd, .int osd, .int olm, .int ofu, .int otb, .int orb, .int ogr])), (g1, .inl (cI, 64, .inl oK)), (g2, .inl (cI, 64, .inl oV)), (g3, .inl (cI, 64, .inl oO)), (g4, .inl (cI, 64, .inl oW))]) : ∀ (tcp : Int32) (tkd : Int32) (tsd : Int32) (tfu : Int32) (tK : Nat → Int32) (ocp : Int32) (ofu : Int32) (oK : Nat → Int32) (v2 : Int32), fX5_hasKeysOf_33 rec2 tcp tkd tsd tfu tK ocp ofu oK v2 = some out → gG p l e rmX5_hasKeysOf s m args below meth c D A 3 (MQ below (hQi D [(h0, .inr (5, [.ref h1, .ref h2, .ref h3, .ref h4, .int tcp, .int tkd, .int tsd, .int tlm, .int tfu, .int ttb, .int trb, .int tgr])), (h1, .inl (cI, 64, .inl tK)), (h2, .inl (cI, 64, .inl tV)), (h3, .inl (cI, 64, .inl tO)), (h4, .inl (cI, 64, .inl tW)), (g0, .inr (5, [.ref g1, .ref g2, .ref g3, .ref g4, .int ocp, .int okd, .int osd, .int olm, .int ofu, .int otb, .int orb, .int ogr])), (g1, .inl (cI, 64, .inl oK)), (g2, .inl (cI, 64, .inl oV)), (g3, .inl (cI, 64, .inl oO)), (g4, .inl (cI, 64, .inl oW))] out A) args s 0 0 A) 0 0 33 [(0, .ref h0), (1, .ref g0), (2, .int v2)] [] [(h0, .inr (5, [.ref h1, .ref h2, .ref h3, .ref h4, .int tcp, .int tkd, .int tsd, .int tlm, .int tfu, .int ttb, .int trb, .int tgr])), (h1, .inl (cI, 64, .inl tK)), (h2, .inl (cI, 64, .inl tV)), (h3, .inl (cI, 64, .inl tO)), (h4, .inl (cI, 64, .inl tW)), (g0, .inr (5, [.ref g1, .ref g2, .ref g3, .ref g4, .int ocp, .int okd, .int osd, .int olm, .int ofu, .int otb, .int orb, .int ogr])), (g1, .inl (cI, 64, .inl oK)), (g2, .inl (cI, 64, .inl oV)), (g3, .inl (cI, 64, .inl oO)), (g4, .inl (cI, 64, .inl oW))] := by
  intro tcp tkd tsd tfu tK ocp ofu oK v2 hf
  unfold fX5_hasKeysOf_33 at hf
  refine g_iinc C0 (lv' := [(2, .int (v2 + (1 : Int32))), (0, .ref h0), (1, .ref g0)]) dX5_hasKeysOf_33 2 rfl rfl (by decide) rfl ?_
  refine g_goto C0 (tgt := 2) dX5_hasKeysOf_36 (by decide) ?_
  refine g_lv [1, 2, 0] (lv' := [(0, .ref h0), (1, .ref g0), (2, .int (v2 + (1 : Int32)))]) rfl ?_
  exact hrec2 tcp tkd tsd tfu tK ocp ofu oK (v2 + (1 : Int32)) hf
set_option maxHeartbeats 4000000 in
set_option maxRecDepth 100000 in
theorem bX5_hasKeysOf_2 {p : Program} {l : Launch} {e : Env} {s : State} {m : MethodId} {args : Array Value} {below : List Frame} {meth : Method} {c : Code} {D : va_G} {cB cC cI cO : ClassId} {A : Nat → Prop} (C0 : gC RX5 cX5_hasKeysOf 3 (some .boolean) p s m args meth c D (hTy cB cC cI cO) A) (h0 h1 h2 h3 h4 g0 g1 g2 g3 g4 : Nat) (out : Int32) (tlm : Int32) (ttb : Int32) (trb : Int32) (tgr : Int32) (tV : Nat → Int32) (tO : Nat → Int32) (tW : Nat → Int32) (okd : Int32) (osd : Int32) (olm : Int32) (otb : Int32) (orb : Int32) (ogr : Int32) (oV : Nat → Int32) (oO : Nat → Int32) (oW : Nat → Int32)   : ∀ (n : Nat) (tcp : Int32) (tkd : Int32) (tsd : Int32) (tfu : Int32) (tK : Nat → Int32) (ocp : Int32) (ofu : Int32) (oK : Nat → Int32) (v2 : Int32), fX5_hasKeysOf_2 n tcp tkd tsd tfu tK ocp ofu oK v2 = some out → gG p l e rmX5_hasKeysOf s m args below meth c D A 3 (MQ below (hQi D [(h0, .inr (5, [.ref h1, .ref h2, .ref h3, .ref h4, .int tcp, .int tkd, .int tsd, .int tlm, .int tfu, .int ttb, .int trb, .int tgr])), (h1, .inl (cI, 64, .inl tK)), (h2, .inl (cI, 64, .inl tV)), (h3, .inl (cI, 64, .inl tO)), (h4, .inl (cI, 64, .inl tW)), (g0, .inr (5, [.ref g1, .ref g2, .ref g3, .ref g4, .int ocp, .int okd, .int osd, .int olm, .int ofu, .int otb, .int orb, .int ogr])), (g1, .inl (cI, 64, .inl oK)), (g2, .inl (cI, 64, .inl oV)), (g3, .inl (cI, 64, .inl oO)), (g4, .inl (cI, 64, .inl oW))] out A) args s 0 0 A) 0 0 2 [(0, .ref h0), (1, .ref g0), (2, .int v2)] [] [(h0, .inr (5, [.ref h1, .ref h2, .ref h3, .ref h4, .int tcp, .int tkd, .int tsd, .int tlm, .int tfu, .int ttb, .int trb, .int tgr])), (h1, .inl (cI, 64, .inl tK)), (h2, .inl (cI, 64, .inl tV)), (h3, .inl (cI, 64, .inl tO)), (h4, .inl (cI, 64, .inl tW)), (g0, .inr (5, [.ref g1, .ref g2, .ref g3, .ref g4, .int ocp, .int okd, .int osd, .int olm, .int ofu, .int otb, .int orb, .int ogr])), (g1, .inl (cI, 64, .inl oK)), (g2, .inl (cI, 64, .inl oV)), (g3, .inl (cI, 64, .inl oO)), (g4, .inl (cI, 64, .inl oW))] := by
  intro n
  induction n with
  | zero => intro tcp tkd tsd tfu tK ocp ofu oK v2 hf; rw [fX5_hasKeysOf_2] at hf; cases hf
  | succ n ih =>
    intro tcp tkd tsd tfu tK ocp ofu oK v2 hf
    rw [fX5_hasKeysOf_2] at hf
    refine g_iload_n C0 dX5_hasKeysOf_2 rfl 2 rfl ?_
    refine g_aload_n C0 dX5_hasKeysOf_3 rfl 1 rfl ?_
    refine g_get C0 hinX5 5 rfl rfl 4 (by decide) q_64 rfl dX5_hasKeysOf_4 ?_
    refine g_icmp_ge C0 (tgt := 39) dX5_hasKeysOf_7 (by decide) (fun c1 => ?_) (fun c1 => ?_)
    · rw [if_pos c1] at hf
      refine g_aload_n C0 dX5_hasKeysOf_39 rfl 0 rfl ?_
      refine g_get C0 hinX5 0 rfl rfl 8 (by decide) q_73 rfl dX5_hasKeysOf_40 ?_
      refine g_aload_n C0 dX5_hasKeysOf_43 rfl 1 rfl ?_
      refine g_get C0 hinX5 5 rfl rfl 8 (by decide) q_73 rfl dX5_hasKeysOf_44 ?_
      refine g_icmp_ne C0 (tgt := 54) dX5_hasKeysOf_47 (by decide) (fun c2 => ?_) (fun c2 => ?_)
      · rw [if_neg c2] at hf
        refine g_iconst C0 (v := (0 : Int32)) dX5_hasKeysOf_54 (by decide) ?_
        cases hf
        exact g_iret C0 rfl dX5_hasKeysOf_55 rfl rfl
      · rw [if_pos c2] at hf
        refine g_iconst C0 (v := (1 : Int32)) dX5_hasKeysOf_50 (by decide) ?_
        refine g_goto C0 (tgt := 55) dX5_hasKeysOf_51 (by decide) ?_
        cases hf
        exact g_iret C0 rfl dX5_hasKeysOf_55 rfl rfl
    · rw [if_neg c1] at hf
      refine g_aload_n C0 dX5_hasKeysOf_10 rfl 1 rfl ?_
      refine g_iload_n C0 dX5_hasKeysOf_11 rfl 2 rfl ?_
      obtain ⟨r3, er3, hf⟩ := hl_bd hf
      try dsimp only at hf
      refine g_callVi C0 (ws' := [(h0, .inr (5, [.ref h1, .ref h2, .ref h3, .ref h4, .int tcp, .int tkd, .int tsd, .int tlm, .int tfu, .int ttb, .int trb, .int tgr])), (h1, .inl (cI, 64, .inl tK)), (h2, .inl (cI, 64, .inl tV)), (h3, .inl (cI, 64, .inl tO)), (h4, .inl (cI, 64, .inl tW)), (g0, .inr (5, [.ref g1, .ref g2, .ref g3, .ref g4, .int ocp, .int okd, .int osd, .int olm, .int ofu, .int otb, .int orb, .int ogr])), (g1, .inl (cI, 64, .inl oK)), (g2, .inl (cI, 64, .inl oV)), (g3, .inl (cI, 64, .inl oO)), (g4, .inl (cI, 64, .inl oW))]) (mX5_isFullSlot l D cB cC cI cO  g0 g1 g2 g3 g4 ocp okd osd olm ofu otb orb ogr oK oV oO oW v2 r3 er3) hmX5_isFullSlot q_434 ⟨Nat.le_of_ble_eq_true rfl, Nat.le_of_ble_eq_true rfl⟩ ⟨Nat.le_of_ble_eq_true rfl, Nat.le_of_ble_eq_true rfl⟩ rfl rfl [5, 6, 7, 8, 9] rfl rfl rfl rfl rfl 0 rfl rfl rfl (Nat.le_of_ble_eq_true rfl) dX5_hasKeysOf_12 ?_
      refine g_if_eq C0 (tgt := 33) dX5_hasKeysOf_15 (by decide) (fun c4 => ?_) (fun c4 => ?_)
      · rw [if_pos c4] at hf
        refine g_lv [0, 1, 2] (lv' := [(0, .ref h0), (1, .ref g0), (2, .int v2)]) rfl ?_
        exact bX5_hasKeysOf_33 C0 h0 h1 h2 h3 h4 g0 g1 g2 g3 g4 out tlm ttb trb tgr tV tO tW okd osd olm otb orb ogr oV oO oW (fX5_hasKeysOf_2 n) ih  tcp tkd tsd tfu tK ocp ofu oK v2 hf
      · rw [if_neg c4] at hf
        refine g_aload_n C0 dX5_hasKeysOf_18 rfl 0 rfl ?_
        refine g_aload_n C0 dX5_hasKeysOf_19 rfl 1 rfl ?_
        refine g_iload_n C0 dX5_hasKeysOf_20 rfl 2 rfl ?_
        obtain ⟨r5, er5, hf⟩ := hl_bd hf
        try dsimp only at hf
        refine g_callVi C0 (ws' := [(h0, .inr (5, [.ref h1, .ref h2, .ref h3, .ref h4, .int tcp, .int tkd, .int tsd, .int tlm, .int tfu, .int ttb, .int trb, .int tgr])), (h1, .inl (cI, 64, .inl tK)), (h2, .inl (cI, 64, .inl tV)), (h3, .inl (cI, 64, .inl tO)), (h4, .inl (cI, 64, .inl tW)), (g0, .inr (5, [.ref g1, .ref g2, .ref g3, .ref g4, .int ocp, .int okd, .int osd, .int olm, .int ofu, .int otb, .int orb, .int ogr])), (g1, .inl (cI, 64, .inl oK)), (g2, .inl (cI, 64, .inl oV)), (g3, .inl (cI, 64, .inl oO)), (g4, .inl (cI, 64, .inl oW))]) (mX5_content l D cB cC cI cO  g0 g1 g2 g3 g4 ocp okd osd olm ofu otb orb ogr oK oV oO oW v2 r5 er5) hmX5_content q_274 ⟨Nat.le_of_ble_eq_true rfl, Nat.le_of_ble_eq_true rfl⟩ ⟨Nat.le_of_ble_eq_true rfl, Nat.le_of_ble_eq_true rfl⟩ rfl rfl [5, 6, 7, 8, 9] rfl rfl rfl rfl rfl 0 rfl rfl rfl (Nat.le_of_ble_eq_true rfl) dX5_hasKeysOf_21 ?_
        obtain ⟨r6, er6, hf⟩ := hl_bd hf
        try dsimp only at hf
        refine g_callVi C0 (ws' := [(h0, .inr (5, [.ref h1, .ref h2, .ref h3, .ref h4, .int tcp, .int tkd, .int tsd, .int tlm, .int tfu, .int ttb, .int trb, .int tgr])), (h1, .inl (cI, 64, .inl tK)), (h2, .inl (cI, 64, .inl tV)), (h3, .inl (cI, 64, .inl tO)), (h4, .inl (cI, 64, .inl tW)), (g0, .inr (5, [.ref g1, .ref g2, .ref g3, .ref g4, .int ocp, .int okd, .int osd, .int olm, .int ofu, .int otb, .int orb, .int ogr])), (g1, .inl (cI, 64, .inl oK)), (g2, .inl (cI, 64, .inl oV)), (g3, .inl (cI, 64, .inl oO)), (g4, .inl (cI, 64, .inl oW))]) (mX5_slotHolding l D cB cC cI cO  h0 h1 h2 h3 h4 tcp tkd tsd tlm tfu ttb trb tgr tK tV tO tW r5 r6 er6) hmX5_slotHolding q_572 ⟨Nat.le_of_ble_eq_true rfl, Nat.le_of_ble_eq_true rfl⟩ ⟨Nat.le_of_ble_eq_true rfl, Nat.le_of_ble_eq_true rfl⟩ rfl rfl [0, 1, 2, 3, 4] rfl rfl rfl rfl rfl 0 rfl rfl rfl (Nat.le_of_ble_eq_true rfl) dX5_hasKeysOf_24 ?_
        refine g_iconst C0 (v := (-1 : Int32)) dX5_hasKeysOf_27 (by decide) ?_
        refine g_icmp_ne C0 (tgt := 33) dX5_hasKeysOf_28 (by decide) (fun c7 => ?_) (fun c7 => ?_)
        · rw [if_neg c7] at hf
          refine g_lv [0, 1, 2] (lv' := [(0, .ref h0), (1, .ref g0), (2, .int v2)]) rfl ?_
          exact bX5_hasKeysOf_33 C0 h0 h1 h2 h3 h4 g0 g1 g2 g3 g4 out tlm ttb trb tgr tV tO tW okd osd olm otb orb ogr oV oO oW (fX5_hasKeysOf_2 n) ih  tcp tkd tsd tfu tK ocp ofu oK v2 hf
        · rw [if_pos c7] at hf
          refine g_iconst C0 (v := (0 : Int32)) dX5_hasKeysOf_31 (by decide) ?_
          cases hf
          exact g_iret C0 rfl dX5_hasKeysOf_32 rfl rfl
set_option maxHeartbeats 4000000 in
set_option maxRecDepth 100000 in
theorem bX5_hasKeysOf {p : Program} {l : Launch} {e : Env} {s : State} {m : MethodId} {args : Array Value} {below : List Frame} {meth : Method} {c : Code} {D : va_G} {cB cC cI cO : ClassId} {A : Nat → Prop} (C0 : gC RX5 cX5_hasKeysOf 3 (some .boolean) p s m args meth c D (hTy cB cC cI cO) A) (h0 h1 h2 h3 h4 g0 g1 g2 g3 g4 : Nat) (out : Int32) (tcp : Int32) (tkd : Int32) (tsd : Int32) (tlm : Int32) (tfu : Int32) (ttb : Int32) (trb : Int32) (tgr : Int32) (tK : Nat → Int32) (tV : Nat → Int32) (tO : Nat → Int32) (tW : Nat → Int32) (ocp : Int32) (okd : Int32) (osd : Int32) (olm : Int32) (ofu : Int32) (otb : Int32) (orb : Int32) (ogr : Int32) (oK : Nat → Int32) (oV : Nat → Int32) (oO : Nat → Int32) (oW : Nat → Int32)  (hf : fX5_hasKeysOf tcp tkd tsd tfu tK ocp ofu oK = some out) : gG p l e rmX5_hasKeysOf s m args below meth c D A 3 (MQ below (hQi D [(h0, .inr (5, [.ref h1, .ref h2, .ref h3, .ref h4, .int tcp, .int tkd, .int tsd, .int tlm, .int tfu, .int ttb, .int trb, .int tgr])), (h1, .inl (cI, 64, .inl tK)), (h2, .inl (cI, 64, .inl tV)), (h3, .inl (cI, 64, .inl tO)), (h4, .inl (cI, 64, .inl tW)), (g0, .inr (5, [.ref g1, .ref g2, .ref g3, .ref g4, .int ocp, .int okd, .int osd, .int olm, .int ofu, .int otb, .int orb, .int ogr])), (g1, .inl (cI, 64, .inl oK)), (g2, .inl (cI, 64, .inl oV)), (g3, .inl (cI, 64, .inl oO)), (g4, .inl (cI, 64, .inl oW))] out A) args s 0 0 A) 0 0 0 [(0, .ref h0), (1, .ref g0)] [] [(h0, .inr (5, [.ref h1, .ref h2, .ref h3, .ref h4, .int tcp, .int tkd, .int tsd, .int tlm, .int tfu, .int ttb, .int trb, .int tgr])), (h1, .inl (cI, 64, .inl tK)), (h2, .inl (cI, 64, .inl tV)), (h3, .inl (cI, 64, .inl tO)), (h4, .inl (cI, 64, .inl tW)), (g0, .inr (5, [.ref g1, .ref g2, .ref g3, .ref g4, .int ocp, .int okd, .int osd, .int olm, .int ofu, .int otb, .int orb, .int ogr])), (g1, .inl (cI, 64, .inl oK)), (g2, .inl (cI, 64, .inl oV)), (g3, .inl (cI, 64, .inl oO)), (g4, .inl (cI, 64, .inl oW))] := by
  unfold fX5_hasKeysOf at hf
  refine g_iconst C0 (v := (0 : Int32)) dX5_hasKeysOf_0 (by decide) ?_
  refine g_istore_n C0 (lv' := [(2, .int (0 : Int32)), (0, .ref h0), (1, .ref g0)]) dX5_hasKeysOf_1 rfl (by decide) rfl ?_
  refine g_lv [1, 2, 0] (lv' := [(0, .ref h0), (1, .ref g0), (2, .int (0 : Int32))]) rfl ?_
  exact bX5_hasKeysOf_2 C0 h0 h1 h2 h3 h4 g0 g1 g2 g3 g4 out tlm ttb trb tgr tV tO tW okd osd olm otb orb ogr oV oO oW  1000 tcp tkd tsd tfu tK ocp ofu oK (0 : Int32) hf
theorem mX5_hasKeysOf (l : Launch) (D : va_G) (cB cC cI cO : ClassId)  (h0 h1 h2 h3 h4 g0 g1 g2 g3 g4 : Nat) (tcp : Int32) (tkd : Int32) (tsd : Int32) (tlm : Int32) (tfu : Int32) (ttb : Int32) (trb : Int32) (tgr : Int32) (tK : Nat → Int32) (tV : Nat → Int32) (tO : Nat → Int32) (tW : Nat → Int32) (ocp : Int32) (okd : Int32) (osd : Int32) (olm : Int32) (ofu : Int32) (otb : Int32) (orb : Int32) (ogr : Int32) (oK : Nat → Int32) (oV : Nat → Int32) (oO : Nat → Int32) (oW : Nat → Int32)  (out : Int32) (hf : fX5_hasKeysOf tcp tkd tsd tfu tK ocp ofu oK = some out) : ∀ sz, Met l yX5_hasKeysOf (ws_ yX5_hasKeysOf cX5_hasKeysOf 3 (some .boolean)) rmX5_hasKeysOf (va_Pc [.ref h0, .ref g0] (hPre D (hTy cB cC cI cO) [(h0, .inr (5, [.ref h1, .ref h2, .ref h3, .ref h4, .int tcp, .int tkd, .int tsd, .int tlm, .int tfu, .int ttb, .int trb, .int tgr])), (h1, .inl (cI, 64, .inl tK)), (h2, .inl (cI, 64, .inl tV)), (h3, .inl (cI, 64, .inl tO)), (h4, .inl (cI, 64, .inl tW)), (g0, .inr (5, [.ref g1, .ref g2, .ref g3, .ref g4, .int ocp, .int okd, .int osd, .int olm, .int ofu, .int otb, .int orb, .int ogr])), (g1, .inl (cI, 64, .inl oK)), (g2, .inl (cI, 64, .inl oV)), (g3, .inl (cI, 64, .inl oO)), (g4, .inl (cI, 64, .inl oW))] sz)) (hQi D [(h0, .inr (5, [.ref h1, .ref h2, .ref h3, .ref h4, .int tcp, .int tkd, .int tsd, .int tlm, .int tfu, .int ttb, .int trb, .int tgr])), (h1, .inl (cI, 64, .inl tK)), (h2, .inl (cI, 64, .inl tV)), (h3, .inl (cI, 64, .inl tO)), (h4, .inl (cI, 64, .inl tW)), (g0, .inr (5, [.ref g1, .ref g2, .ref g3, .ref g4, .int ocp, .int okd, .int osd, .int olm, .int ofu, .int otb, .int orb, .int ogr])), (g1, .inl (cI, 64, .inl oK)), (g2, .inl (cI, 64, .inl oV)), (g3, .inl (cI, 64, .inl oO)), (g4, .inl (cI, 64, .inl oW))] out (va_A [(h0, .inr (5, [.ref h1, .ref h2, .ref h3, .ref h4, .int tcp, .int tkd, .int tsd, .int tlm, .int tfu, .int ttb, .int trb, .int tgr])), (h1, .inl (cI, 64, .inl tK)), (h2, .inl (cI, 64, .inl tV)), (h3, .inl (cI, 64, .inl tO)), (h4, .inl (cI, 64, .inl tW)), (g0, .inr (5, [.ref g1, .ref g2, .ref g3, .ref g4, .int ocp, .int okd, .int osd, .int olm, .int ofu, .int otb, .int orb, .int ogr])), (g1, .inl (cI, 64, .inl oK)), (g2, .inl (cI, 64, .inl oV)), (g3, .inl (cI, 64, .inl oO)), (g4, .inl (cI, 64, .inl oW))] sz)) 0 0 (va_A [(h0, .inr (5, [.ref h1, .ref h2, .ref h3, .ref h4, .int tcp, .int tkd, .int tsd, .int tlm, .int tfu, .int ttb, .int trb, .int tgr])), (h1, .inl (cI, 64, .inl tK)), (h2, .inl (cI, 64, .inl tV)), (h3, .inl (cI, 64, .inl tO)), (h4, .inl (cI, 64, .inl tW)), (g0, .inr (5, [.ref g1, .ref g2, .ref g3, .ref g4, .int ocp, .int okd, .int osd, .int olm, .int ofu, .int otb, .int orb, .int ogr])), (g1, .inl (cI, 64, .inl oK)), (g2, .inl (cI, 64, .inl oV)), (g3, .inl (cI, 64, .inl oO)), (g4, .inl (cI, 64, .inl oW))] sz) :=
  g_met (Qf := fun A => hQi D [(h0, .inr (5, [.ref h1, .ref h2, .ref h3, .ref h4, .int tcp, .int tkd, .int tsd, .int tlm, .int tfu, .int ttb, .int trb, .int tgr])), (h1, .inl (cI, 64, .inl tK)), (h2, .inl (cI, 64, .inl tV)), (h3, .inl (cI, 64, .inl tO)), (h4, .inl (cI, 64, .inl tW)), (g0, .inr (5, [.ref g1, .ref g2, .ref g3, .ref g4, .int ocp, .int okd, .int osd, .int olm, .int ofu, .int otb, .int orb, .int ogr])), (g1, .inl (cI, 64, .inl oK)), (g2, .inl (cI, 64, .inl oV)), (g3, .inl (cI, 64, .inl oO)), (g4, .inl (cI, 64, .inl oW))] out A) (by decide +kernel) (Nat.le_of_ble_eq_true rfl) rfl (fun C0 => bX5_hasKeysOf C0 h0 h1 h2 h3 h4 g0 g1 g2 g3 g4 out tcp tkd tsd tlm tfu ttb trb tgr tK tV tO tW ocp okd osd olm ofu otb orb ogr oK oV oO oW  hf)
