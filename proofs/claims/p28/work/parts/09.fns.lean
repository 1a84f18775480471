/-! The functions that the methods compute, laid by program out of javap's listing (wip/whole/gen): σ k i is the i-th field or element of the k-th cell. -/
def fat (σ : SS) (k n : Nat) (i : Int32) : Int32 := if i < 0 then 0 else if Int32.ofNat n ≤ i then 0 else σ k i.toNatClampNeg
def fput (σ : SS) (k n : Nat) (i x : Int32) : SS := if i < 0 then σ else if Int32.ofNat n ≤ i then σ else wr σ k i.toNatClampNeg x
def fadd (σ : SS) (k n : Nat) (i x : Int32) : SS := fput σ k n i (fat σ k n i + x)
def X4_isWithin (x0 x1 x2 : Int32) : Int32 := (if x0 < x1 then (0 : Int32) else (if x2 < x0 then (0 : Int32) else (1 : Int32)))
theorem z_X4_isWithin  (x0 x1 x2 : Int32) : (X4_isWithin x0 x1 x2) &&& 1 = X4_isWithin x0 x1 x2 := by unfold X4_isWithin; (repeat' split) <;> first | rfl | decide | exact z_X4_isIn _ _
def X3_everyScene (σ : SS) : Int32 := ((1 : Int32) <<< ((σ 2 5) &&& 31)) - (1 : Int32)
def X2_forget (σ : SS) : Option SS := (lt (wr σ 1 7 (0 : Int32)) (fun σ_1 => some σ_1))
def X3_append (σ : SS) (x1 x2 x3 x4 x5 : Int32) : Option (Int32 × SS) := (lt (fput σ 5 8 (σ 2 5) x1) (fun σ_1 => (lt (fput σ_1 6 8 (σ_1 2 5) x2) (fun σ_2 => (lt (fput σ_2 7 8 (σ_2 2 5) x3) (fun σ_3 => (lt (fput σ_3 8 8 (σ_3 2 5) x4) (fun σ_4 => (lt (fput σ_4 9 8 (σ_4 2 5) x5) (fun σ_5 => (lt (wr σ_5 2 5 ((σ_5 2 5) + (1 : Int32))) (fun σ_6 => some ((σ_6 2 5) - (1 : Int32), σ_6)))))))))))))
def X4_addScene_b54 (τ : SS) : Option ((Int32 ⊕ String) × SS) := some (.inr "java/lang/IllegalArgumentException", τ)
def X4_addScene (σ : SS) (x1 x2 x3 x4 x5 : Int32) : Option ((Int32 ⊕ String) × SS) := (if (X4_isWithin x1 (1 : Int32) (6 : Int32)) = 0 then (X4_addScene_b54 σ) else (if (X4_isWithin x2 (0 : Int32) (3 : Int32)) = 0 then (X4_addScene_b54 σ) else (if (X4_isWithin x3 (0 : Int32) (63 : Int32)) = 0 then (X4_addScene_b54 σ) else (if (X4_isWithin x4 (0 : Int32) (2 : Int32)) = 0 then (X4_addScene_b54 σ) else (if (x5 &&& ((X3_everyScene σ) ^^^ (-1 : Int32))) = 0 then (if (σ 2 5) < (8 : Int32) then ((X2_forget σ).bind (fun σ_7 => (bd2 (X3_append σ_7 x1 x2 x3 x4 x5) (fun r_8 σ_8 => some (.inl r_8, σ_8))))) else some (.inr "java/lang/IllegalStateException", σ)) else (X4_addScene_b54 σ))))))
def X4_isIn (x0 x1 : Int32) : Int32 := (if ((x0 >>> (x1 &&& 31)) &&& (1 : Int32)) = 0 then (0 : Int32) else (1 : Int32))
theorem z_X4_isIn  (x0 x1 : Int32) : (X4_isIn x0 x1) &&& 1 = X4_isIn x0 x1 := by unfold X4_isIn; (repeat' split) <;> first | rfl | decide | exact z_X4_isIn _ _
def X4_with (x0 x1 x2 : Int32) : Int32 := (if x2 = 0 then x0 &&& (((1 : Int32) <<< (x1 &&& 31)) ^^^ (-1 : Int32)) else x0 ||| ((1 : Int32) <<< (x1 &&& 31)))
def X4_setOut (σ : SS) (x1 x2 : Int32) : Option ((Int32 ⊕ String) × SS) := (if (X4_isWithin x1 (0 : Int32) (3 : Int32)) = 0 then some (.inr "java/lang/IndexOutOfBoundsException", σ) else (lt (wr σ 2 7 (X4_with (σ 2 7) x1 x2)) (fun σ_2 => some (.inl (X4_isIn (σ 2 7) x1), σ_2))))
def X4_setChild (σ : SS) (x1 x2 : Int32) : Option ((Int32 ⊕ String) × SS) := (if (X4_isWithin x1 (0 : Int32) (5 : Int32)) = 0 then some (.inr "java/lang/IndexOutOfBoundsException", σ) else (if (X4_isIn (σ 2 8) x1) = x2 then some (.inl (X4_isIn (σ 2 8) x1), σ) else ((X2_forget σ).bind (fun σ_3 => (lt (wr σ_3 2 8 (X4_with (σ_3 2 8) x1 x2)) (fun σ_4 => some (.inl (X4_isIn (σ 2 8) x1), σ_4)))))))
def X4_setRates_b22 (τ : SS) : Option ((Int32 ⊕ String) × SS) := some (.inr "java/lang/IllegalArgumentException", τ)
def X4_setRates (σ : SS) (x1 x2 : Int32) : Option ((Int32 ⊕ String) × SS) := (if (X4_isWithin x1 (0 : Int32) (1000 : Int32)) = 0 then (X4_setRates_b22 σ) else (if (X4_isWithin x2 (0 : Int32) (1000 : Int32)) = 0 then (X4_setRates_b22 σ) else (lt (wr σ 0 4 x1) (fun σ_3 => (lt (wr σ_3 0 5 x2) (fun σ_4 => some (.inl (σ 0 4), σ_4)))))))
def X4_hold (σ : SS) (x1 : Int32) : Option (Int32 × SS) := (if x1 &&& 1 = x1 then (lt (wr σ 0 6 x1) (fun σ_2 => (if (σ 0 6) &&& 1 = (σ 0 6) then some (σ 0 6, σ_2) else none))) else none)
def X2_dayOf (x0 : Int32) : Int32 := x0 / (24 : Int32)
def X2_daysUpTo (σ : SS) (x1 : Int32) : Int32 := (if x1 = 0 then (0 : Int32) else ((X2_dayOf (fat σ 11 8 (fat σ 10 8 (x1 - (1 : Int32))))) - (σ 1 6)) + (1 : Int32))
def fuel_X2_keepIfBetter_24 : Nat := 64
def X2_keepIfBetter_l24 : Nat → SS → Int32 → Option SS
  | 0, _, _ => none
  | n + 1, τ, x2 => (if (8 : Int32) ≤ x2 then some τ else (lt (fput τ 12 8 x2 (fat τ 10 8 x2)) (fun σ_4 => (lt (fput σ_4 13 8 x2 (fat σ_4 11 8 x2)) (fun σ_5 => (X2_keepIfBetter_l24 n σ_5 (x2 + 1)))))))
def X2_keepIfBetter (σ : SS) (x1 : Int32) : Option SS := (if (X2_daysUpTo σ x1) < (σ 1 5) then (lt (wr σ 1 5 (X2_daysUpTo σ x1)) (fun σ_2 => (X2_keepIfBetter_l24 fuel_X2_keepIfBetter_24 σ_2 (0 : Int32)))) else some σ)
def X3_isFree (σ : SS) (x1 x2 : Int32) : Int32 := (if ((fat σ 9 8 x1) &&& (x2 ^^^ (-1 : Int32))) = 0 then (1 : Int32) else (0 : Int32))
theorem z_X3_isFree (σ : SS) (x1 x2 : Int32) : (X3_isFree σ x1 x2) &&& 1 = X3_isFree σ x1 x2 := by unfold X3_isFree; (repeat' split) <;> first | rfl | decide | exact z_X4_isIn _ _
def X3_canFollow (σ : SS) (x1 x2 : Int32) : Int32 := (if (X4_isIn x2 x1) = 0 then (if (X3_isFree σ x1 x2) = 0 then (0 : Int32) else (1 : Int32)) else (0 : Int32))
theorem z_X3_canFollow (σ : SS) (x1 x2 : Int32) : (X3_canFollow σ x1 x2) &&& 1 = X3_canFollow σ x1 x2 := by unfold X3_canFollow; (repeat' split) <;> first | rfl | decide | exact z_X4_isIn _ _
def X2_startOf (x0 : Int32) : Int32 := ((24 : Int32) * x0) + (8 : Int32)
def X2_endOf (σ : SS) (x1 : Int32) : Int32 := (fat σ 11 8 x1) + (fat σ 5 8 x1)
def X2_beginFrom_b121 (k : SS → Int32 → Int32 → Int32 → Int32 → Int32 → Option Int32) (σ : SS) (x2 x3 x4 x6 x7 : Int32) : Option Int32 := (k σ x2 x3 x4 x6 (x7 + 1))
def fuel_X2_beginFrom_40 : Nat := 64
def X2_beginFrom_l40 : Nat → SS → Int32 → Int32 → Int32 → Int32 → Int32 → Option Int32
  | 0, _, _, _, _, _, _ => none
  | n + 1, σ, x2, x3, x4, x6, x7 => (if (σ 2 5) ≤ x7 then some x6 else (if (X4_isIn x4 x7) = 0 then (X2_beginFrom_b121 (X2_beginFrom_l40 n) σ x2 x3 x4 x6 x7) else (if ((fat σ 7 8 x7) &&& (fat σ 7 8 x2)) = 0 then (X2_beginFrom_b121 (X2_beginFrom_l40 n) σ x2 x3 x4 x6 x7) else (if x3 ≤ (X2_dayOf (fat σ 11 8 x7)) then (X2_beginFrom_b121 (X2_beginFrom_l40 n) σ x2 x3 x4 x6 x7) else (X2_beginFrom_b121 (X2_beginFrom_l40 n) σ x2 x3 x4 (imax x6 ((X2_endOf σ x7) + (11 : Int32))) x7)))))
def X2_beginFrom_b26 (σ : SS) (x1 x2 x3 x4 y0 y1 : Int32) : Option Int32 := (X2_beginFrom_l40 fuel_X2_beginFrom_40 σ x2 x3 x4 (imax x1 (y0 + y1)) (0 : Int32))
def X2_beginFrom (σ : SS) (x1 x2 x3 x4 : Int32) : Option Int32 := (if (fat σ 8 8 x2) = (2 : Int32) then (X2_beginFrom_b26 σ x1 x2 x3 x4 ((24 : Int32) * x3) (18 : Int32)) else (X2_beginFrom_b26 σ x1 x2 x3 x4 ((24 : Int32) * x3) (8 : Int32)))
def X2_endsInTime_b22 (σ : SS) (x1 x2 x3 y0 : Int32) : Int32 := (if (((24 : Int32) * x3) + y0) < (x2 + (fat σ 5 8 x1)) then (0 : Int32) else (1 : Int32))
def X2_endsInTime (σ : SS) (x1 x2 x3 : Int32) : Int32 := (if (fat σ 8 8 x1) = (1 : Int32) then (X2_endsInTime_b22 σ x1 x2 x3 (18 : Int32)) else (X2_endsInTime_b22 σ x1 x2 x3 (24 : Int32)))
theorem z_X2_endsInTime (σ : SS) (x1 x2 x3 : Int32) : (X2_endsInTime σ x1 x2 x3) &&& 1 = X2_endsInTime σ x1 x2 x3 := by unfold X2_endsInTime X2_endsInTime_b22; (repeat' split) <;> first | rfl | decide | exact z_X4_isIn _ _
def X2_placedOn_b50 (k : SS → Int32 → Int32 → Int32 → Int32 → Option Int32) (σ : SS) (x1 x2 x3 x4 : Int32) : Option Int32 := (k σ x1 x2 x3 (x4 + 1))
def fuel_X2_placedOn_5 : Nat := 64
def X2_placedOn_l5 : Nat → SS → Int32 → Int32 → Int32 → Int32 → Option Int32
  | 0, _, _, _, _, _ => none
  | n + 1, σ, x1, x2, x3, x4 => (if (σ 2 5) ≤ x4 then some x3 else (if (X4_isIn x2 x4) = 0 then (X2_placedOn_b50 (X2_placedOn_l5 n) σ x1 x2 x3 x4) else (if (X2_dayOf (fat σ 11 8 x4)) = x1 then (X2_placedOn_b50 (X2_placedOn_l5 n) σ x1 x2 (X4_with x3 x4 (1 : Int32)) x4) else (X2_placedOn_b50 (X2_placedOn_l5 n) σ x1 x2 x3 x4))))
def X2_placedOn (σ : SS) (x1 x2 : Int32) : Option Int32 := (X2_placedOn_l5 fuel_X2_placedOn_5 σ x1 x2 (0 : Int32) (0 : Int32))
def X2_hoursFor_b60 (k : SS → Int32 → Int32 → Int32 → Int32 → Option Int32) (σ : SS) (x1 x2 x3 x4 : Int32) : Option Int32 := (k σ x1 x2 x3 (x4 + 1))
def fuel_X2_hoursFor_5 : Nat := 64
def X2_hoursFor_l5 : Nat → SS → Int32 → Int32 → Int32 → Int32 → Option Int32
  | 0, _, _, _, _, _ => none
  | n + 1, σ, x1, x2, x3, x4 => (if (σ 2 5) ≤ x4 then some x3 else (if (X4_isIn x2 x4) = 0 then (X2_hoursFor_b60 (X2_hoursFor_l5 n) σ x1 x2 x3 x4) else (if (X4_isIn (fat σ 7 8 x4) x1) = 0 then (X2_hoursFor_b60 (X2_hoursFor_l5 n) σ x1 x2 x3 x4) else (X2_hoursFor_b60 (X2_hoursFor_l5 n) σ x1 x2 (x3 + (fat σ 5 8 x4)) x4))))
def X2_hoursFor (σ : SS) (x1 x2 : Int32) : Option Int32 := (X2_hoursFor_l5 fuel_X2_hoursFor_5 σ x1 x2 (0 : Int32) (0 : Int32))
def X2_isFitForChildren_b72 (k : SS → Int32 → Int32 → Int32 → Int32 → Int32 → Option Int32) (σ : SS) (x1 x2 x3 x4 x5 : Int32) : Option Int32 := (k σ x1 x2 x3 x4 (x5 + 1))
def fuel_X2_isFitForChildren_24 : Nat := 64
def X2_isFitForChildren_l24 : Nat → SS → Int32 → Int32 → Int32 → Int32 → Int32 → Option Int32
  | 0, _, _, _, _, _, _ => none
  | n + 1, σ, x1, x2, x3, x4, x5 => (if (6 : Int32) ≤ x5 then some (1 : Int32) else (if (X4_isIn x4 x5) = 0 then (X2_isFitForChildren_b72 (X2_isFitForChildren_l24 n) σ x1 x2 x3 x4 x5) else ((X2_placedOn σ x2 x3).bind (fun r_3 => ((X2_hoursFor σ x5 r_3).bind (fun r_4 => (if (r_4 + (fat σ 5 8 x1)) ≤ (6 : Int32) then (X2_isFitForChildren_b72 (X2_isFitForChildren_l24 n) σ x1 x2 x3 x4 x5) else some (0 : Int32))))))))
def X2_isFitForChildren (σ : SS) (x1 x2 x3 : Int32) : Option Int32 := (X2_isFitForChildren_l24 fuel_X2_isFitForChildren_24 σ x1 x2 x3 ((σ 2 8) &&& (fat σ 7 8 x1)) (0 : Int32))
def X2_place_b136 (τ : SS) (x1 x2 x5 : Int32) : Option SS := (lt (fput τ 10 8 x2 x1) (fun σ_7 => (lt (fput σ_7 11 8 x1 x5) (fun σ_8 => some σ_8))))
def X2_place_b118 (τ : SS) (x1 x2 x3 x4 : Int32) : Option SS := ((X2_beginFrom τ (X2_startOf (x4 + 1)) x1 (x4 + 1) x3).bind (fun r_9 => (X2_place_b136 τ x1 x2 r_9)))
def X2_place_b83 (τ : SS) (x1 x2 x3 x4 x5 : Int32) : Option SS := ((X2_beginFrom τ x5 x1 x4 x3).bind (fun r_3 => (if (X2_endsInTime τ x1 r_3 x4) = 0 then (X2_place_b118 τ x1 x2 x3 x4) else ((X2_isFitForChildren τ x1 x4 x3).bind (fun r_5 => (if r_5 = 0 then (X2_place_b118 τ x1 x2 x3 x4) else (X2_place_b136 τ x1 x2 r_3)))))))
def X2_place_b80 (τ : SS) (x1 x2 x3 x4 y0 y1 : Int32) : Option SS := (X2_place_b83 τ x1 x2 x3 x4 (y0 + y1))
def X2_place (σ : SS) (x1 x2 x3 : Int32) : Option SS := (if x2 ≤ 0 then (X2_place_b83 σ x1 x2 x3 (σ 1 6) (X2_startOf (σ 1 6))) else (if (fat σ 6 8 (fat σ 10 8 (x2 - (1 : Int32)))) = (fat σ 6 8 x1) then (X2_place_b80 σ x1 x2 x3 (X2_dayOf (fat σ 11 8 (fat σ 10 8 (x2 - (1 : Int32))))) (X2_endOf σ (fat σ 10 8 (x2 - (1 : Int32)))) (0 : Int32)) else (X2_place_b80 σ x1 x2 x3 (X2_dayOf (fat σ 11 8 (fat σ 10 8 (x2 - (1 : Int32))))) (X2_endOf σ (fat σ 10 8 (x2 - (1 : Int32)))) (1 : Int32))))
def X3_hoursOf_b31 (k : SS → Int32 → Int32 → Int32 → Option Int32) (σ : SS) (x1 x2 x3 : Int32) : Option Int32 := (k σ x1 x2 (x3 + 1))
def fuel_X3_hoursOf_4 : Nat := 64
def X3_hoursOf_l4 : Nat → SS → Int32 → Int32 → Int32 → Option Int32
  | 0, _, _, _, _ => none
  | n + 1, σ, x1, x2, x3 => (if (σ 2 5) ≤ x3 then some x2 else (if (X4_isIn x1 x3) = 0 then (X3_hoursOf_b31 (X3_hoursOf_l4 n) σ x1 x2 x3) else (X3_hoursOf_b31 (X3_hoursOf_l4 n) σ x1 (x2 + (fat σ 5 8 x3)) x3)))
def X3_hoursOf (σ : SS) (x1 : Int32) : Option Int32 := (X3_hoursOf_l4 fuel_X3_hoursOf_4 σ x1 (0 : Int32) (0 : Int32))
def X2_hoursIn_b57 (k : SS → Int32 → Int32 → Int32 → Int32 → Option Int32) (σ : SS) (x1 x2 x3 x4 : Int32) : Option Int32 := (k σ x1 x2 x3 (x4 + 1))
def fuel_X2_hoursIn_5 : Nat := 64
def X2_hoursIn_l5 : Nat → SS → Int32 → Int32 → Int32 → Int32 → Option Int32
  | 0, _, _, _, _, _ => none
  | n + 1, σ, x1, x2, x3, x4 => (if (σ 2 5) ≤ x4 then some x3 else (if (X4_isIn x1 x4) = 0 then (X2_hoursIn_b57 (X2_hoursIn_l5 n) σ x1 x2 x3 x4) else (if (fat σ 8 8 x4) = x2 then (X2_hoursIn_b57 (X2_hoursIn_l5 n) σ x1 x2 (x3 + (fat σ 5 8 x4)) x4) else (X2_hoursIn_b57 (X2_hoursIn_l5 n) σ x1 x2 x3 x4))))
def X2_hoursIn (σ : SS) (x1 x2 : Int32) : Option Int32 := (X2_hoursIn_l5 fuel_X2_hoursIn_5 σ x1 x2 (0 : Int32) (0 : Int32))
def X2_hasRoom (σ : SS) (x1 x2 x3 : Int32) : Option Int32 := ((X3_hoursOf σ x1).bind (fun r_1 => (if (((24 : Int32) - ((X2_endOf σ x2) - ((24 : Int32) * (X2_dayOf (fat σ 11 8 x2))))) + (x3 * (16 : Int32))) < r_1 then some (0 : Int32) else ((X2_hoursIn σ x1 (1 : Int32)).bind (fun r_3 => (if ((imax (0 : Int32) ((18 : Int32) - ((X2_endOf σ x2) - ((24 : Int32) * (X2_dayOf (fat σ 11 8 x2)))))) + (x3 * (10 : Int32))) < r_3 then some (0 : Int32) else ((X2_hoursIn σ x1 (2 : Int32)).bind (fun r_5 => (if (((24 : Int32) - (imax (18 : Int32) ((X2_endOf σ x2) - ((24 : Int32) * (X2_dayOf (fat σ 11 8 x2)))))) + (x3 * (6 : Int32))) < r_5 then some (0 : Int32) else some (1 : Int32))))))))))
def X2_hasRoomForChildren_b71 (k : SS → Int32 → Int32 → Int32 → Int32 → Int32 → Option Int32) (σ : SS) (x1 x2 x4 x5 x6 : Int32) : Option Int32 := (k σ x1 x2 x4 x5 (x6 + 1))
def fuel_X2_hasRoomForChildren_16 : Nat := 64
def X2_hasRoomForChildren_l16 : Nat → SS → Int32 → Int32 → Int32 → Int32 → Int32 → Option Int32
  | 0, _, _, _, _, _, _ => none
  | n + 1, σ, x1, x2, x4, x5, x6 => (if (6 : Int32) ≤ x6 then some (1 : Int32) else (if (X4_isIn (σ 2 8) x6) = 0 then (X2_hasRoomForChildren_b71 (X2_hasRoomForChildren_l16 n) σ x1 x2 x4 x5 x6) else ((X2_hoursFor σ x6 x1).bind (fun r_3 => ((X2_placedOn σ x5 x2).bind (fun r_4 => ((X2_hoursFor σ x6 r_4).bind (fun r_5 => (if r_3 ≤ (((6 : Int32) * (x4 + (1 : Int32))) - r_5) then (X2_hasRoomForChildren_b71 (X2_hasRoomForChildren_l16 n) σ x1 x2 x4 x5 x6) else some (0 : Int32))))))))))
def X2_hasRoomForChildren (σ : SS) (x1 x2 x3 x4 : Int32) : Option Int32 := (X2_hasRoomForChildren_l16 fuel_X2_hasRoomForChildren_16 σ x1 x2 x4 (X2_dayOf (fat σ 11 8 x3)) (0 : Int32))
def X2_canBeBetter (σ : SS) (x1 x2 : Int32) : Option Int32 := (if (((σ 1 5) - (1 : Int32)) - (X2_daysUpTo σ x1)) < 0 then some (0 : Int32) else ((X2_hasRoom σ ((X3_everyScene σ) &&& (x2 ^^^ (-1 : Int32))) (fat σ 10 8 (x1 - (1 : Int32))) (((σ 1 5) - (1 : Int32)) - (X2_daysUpTo σ x1))).bind (fun r_2 => (if r_2 = 0 then some (0 : Int32) else ((X2_hasRoomForChildren σ ((X3_everyScene σ) &&& (x2 ^^^ (-1 : Int32))) x2 (fat σ 10 8 (x1 - (1 : Int32))) (((σ 1 5) - (1 : Int32)) - (X2_daysUpTo σ x1))).bind (fun r_4 => (if r_4 = 0 then some (0 : Int32) else some (1 : Int32))))))))
def X2_tryOrders_b84 (rec : SS → Int32 → Int32 → Option SS) (k : SS → Int32 → Int32 → Int32 → Option SS) (τ : SS) (x1 x2 x3 : Int32) : Option SS := (k τ x1 x2 (x3 + 1))
def fuel_X2_tryOrders_25 : Nat := 64
def X2_tryOrders_l25 (rec : SS → Int32 → Int32 → Option SS) : Nat → SS → Int32 → Int32 → Int32 → Option SS
  | 0, _, _, _, _ => none
  | n + 1, τ, x1, x2, x3 => (if (τ 2 5) ≤ x3 then some τ else (if (X3_canFollow τ x3 x2) = 0 then (X2_tryOrders_b84 rec (X2_tryOrders_l25 rec n) τ x1 x2 x3) else ((X2_place τ x3 x1 x2).bind (fun σ_5 => ((X2_canBeBetter σ_5 (x1 + (1 : Int32)) (X4_with x2 x3 (1 : Int32))).bind (fun r_6 => (if r_6 = 0 then (X2_tryOrders_b84 rec (X2_tryOrders_l25 rec n) σ_5 x1 x2 x3) else ((rec σ_5 (x1 + (1 : Int32)) (X4_with x2 x3 (1 : Int32))).bind (fun σ_8 => (X2_tryOrders_b84 rec (X2_tryOrders_l25 rec n) σ_8 x1 x2 x3))))))))))
def X2_tryOrders_b17 (rec : SS → Int32 → Int32 → Option SS) (τ : SS) (x1 : Int32) : Option SS := ((X2_keepIfBetter τ x1).bind (fun σ_9 => some σ_9))
def X2_tryOrders : Nat → SS → Int32 → Int32 → Option SS
  | 0, _, _, _ => none
  | n + 1, σ, x1, x2 => (if x2 = (X3_everyScene σ) then (X2_tryOrders_b17 (X2_tryOrders n) σ x1) else (if x1 < (8 : Int32) then (X2_tryOrders_l25 (X2_tryOrders n) fuel_X2_tryOrders_25 σ x1 x2 (0 : Int32)) else (X2_tryOrders_b17 (X2_tryOrders n) σ x1)))
def X2_makePlan (σ : SS) : Option SS := (if (σ 1 7) = 0 then (lt (wr σ 1 5 (9 : Int32)) (fun σ_2 => ((X2_tryOrders 16 σ_2 (0 : Int32) (σ_2 2 6)).bind (fun σ_3 => (lt (wr σ_3 1 7 (1 : Int32)) (fun σ_4 => some σ_4)))))) else some σ)
def J6_bitCount_b48 (x0 : Int32) : Int32 := x0 &&& (63 : Int32)
def J6_bitCount_b41 (x0 : Int32) : Int32 := (J6_bitCount_b48 (x0 + (ius x0 (16 : Int32))))
def J6_bitCount_b34 (x0 : Int32) : Int32 := (J6_bitCount_b41 (x0 + (ius x0 (8 : Int32))))
def J6_bitCount_b24 (x0 : Int32) : Int32 := (J6_bitCount_b34 ((x0 + (ius x0 (4 : Int32))) &&& (252645135 : Int32)))
def J6_bitCount_b10 (x0 : Int32) : Int32 := (J6_bitCount_b24 ((x0 &&& (858993459 : Int32)) + ((ius x0 (2 : Int32)) &&& (858993459 : Int32))))
def J6_bitCount (x0 : Int32) : Int32 := (J6_bitCount_b10 (x0 - ((ius x0 (1 : Int32)) &&& (1431655765 : Int32))))
def X3_countOpen (σ : SS) : Int32 := (σ 2 5) - (J6_bitCount (σ 2 6))
def X3_isOutdoors (σ : SS) (x1 : Int32) : Int32 := X4_isIn (σ 2 7) (fat σ 6 8 x1)
theorem z_X3_isOutdoors (σ : SS) (x1 : Int32) : (X3_isOutdoors σ x1) &&& 1 = X3_isOutdoors σ x1 := by unfold X3_isOutdoors; (repeat' split) <;> first | rfl | decide | exact z_X4_isIn _ _
def X2_shootable_b89 (k : SS → Int32 → Int32 → Int32 → Option Int32) (σ : SS) (x1 x2 x3 : Int32) : Option Int32 := (k σ x1 x2 (x3 + 1))
def X2_shootable_b60 (k : SS → Int32 → Int32 → Int32 → Option Int32) (σ : SS) (x1 x2 x3 x4 : Int32) : Option Int32 := (if (X3_isFree σ x4 ((σ 2 6) ||| x2)) = 0 then (X2_shootable_b89 k σ x1 x2 x3) else (X2_shootable_b89 k σ x1 (X4_with x2 x4 (1 : Int32)) x3))
def fuel_X2_shootable_4 : Nat := 64
def X2_shootable_l4 : Nat → SS → Int32 → Int32 → Int32 → Option Int32
  | 0, _, _, _, _ => none
  | n + 1, σ, x1, x2, x3 => (if (X3_countOpen σ) ≤ x3 then some x2 else (if (X2_dayOf (fat σ 13 8 (fat σ 12 8 x3))) = (σ 1 6) then (if x1 = 0 then (X2_shootable_b60 (X2_shootable_l4 n) σ x1 x2 x3 (fat σ 12 8 x3)) else (if (X3_isOutdoors σ (fat σ 12 8 x3)) = 0 then (X2_shootable_b60 (X2_shootable_l4 n) σ x1 x2 x3 (fat σ 12 8 x3)) else (X2_shootable_b89 (X2_shootable_l4 n) σ x1 x2 x3))) else (X2_shootable_b89 (X2_shootable_l4 n) σ x1 x2 x3)))
def X2_shootable (σ : SS) (x1 : Int32) : Option Int32 := (X2_shootable_l4 fuel_X2_shootable_4 σ x1 (0 : Int32) (0 : Int32))
def X0_lackOf (σ : SS) (x1 x2 : Int32) : Int32 := imax (0 : Int32) (x2 - (fat σ 14 4 x1))
def X0_pay (σ : SS) (x1 x2 : Int32) : Option (Int32 × SS) := (lt (fadd σ 14 4 x1 ((X0_lackOf σ x1 x2) - x2)) (fun σ_1 => (lt (wr σ_1 3 1 ((σ_1 3 1) - (X0_lackOf σ x1 x2))) (fun σ_2 => (lt (wr σ_2 3 2 ((σ_2 3 2) + x2)) (fun σ_3 => (lt (wr σ_3 3 3 ((σ_3 3 3) + x2)) (fun σ_4 => some (X0_lackOf σ x1 x2, σ_4)))))))))
def X2_endDay_b37 (k : SS → Int32 → Int32 → Option SS) (τ : SS) (x1 x2 : Int32) : Option SS := (k τ x1 (x2 + 1))
def fuel_X2_endDay_2 : Nat := 64
def X2_endDay_l2 : Nat → SS → Int32 → Int32 → Option SS
  | 0, _, _, _ => none
  | n + 1, τ, x1, x2 => (if (τ 2 5) ≤ x2 then (lt (wr τ 2 6 ((τ 2 6) ||| x1)) (fun σ_2 => (lt (wr σ_2 1 6 ((σ_2 1 6) + (1 : Int32))) (fun σ_3 => ((X2_forget σ_3).bind (fun σ_4 => some σ_4)))))) else (if (X4_isIn x1 x2) = 0 then (X2_endDay_b37 (X2_endDay_l2 n) τ x1 x2) else (lt (fput τ 11 8 x2 (fat τ 13 8 x2)) (fun σ_6 => (X2_endDay_b37 (X2_endDay_l2 n) σ_6 x1 x2)))))
def X2_endDay (σ : SS) (x1 : Int32) : Option SS := (X2_endDay_l2 fuel_X2_endDay_2 σ x1 (0 : Int32))
def X4_shoot_b109 (τ : SS) : Option ((Int32 ⊕ String) × SS) := some (.inr "java/lang/IllegalStateException", τ)
def X4_shoot_b60 (τ : SS) (x2 x3 y0 : Int32) : Option ((Int32 ⊕ String) × SS) := (if (τ 3 1) < ((X0_lackOf τ (0 : Int32) x3) + (X0_lackOf τ (1 : Int32) y0)) then (X4_shoot_b109 τ) else (if (τ 1 6) < (1000 : Int32) then (bd2 (X0_pay τ (0 : Int32) x3) (fun r_9 σ_9 => (bd2 (X0_pay σ_9 (1 : Int32) y0) (fun r_10 σ_10 => ((X2_endDay σ_10 x2).bind (fun σ_11 => some (.inl (J6_bitCount x2), σ_11))))))) else (X4_shoot_b109 τ)))
def X4_shoot_b27 (τ : SS) (y1 : Int32) : Option ((Int32 ⊕ String) × SS) := ((X2_shootable τ y1).bind (fun r_4 => ((X3_hoursOf τ r_4).bind (fun r_5 => (if (τ 0 6) = 0 then (X4_shoot_b60 τ r_4 (r_5 * (τ 0 4)) (0 : Int32)) else (X4_shoot_b60 τ r_4 (r_5 * (τ 0 4)) (τ 0 5)))))))
def X4_shoot_b26 (τ : SS) : Option ((Int32 ⊕ String) × SS) := (X4_shoot_b27 τ (0 : Int32))
def X4_shoot (σ : SS) (x1 : Int32) : Option ((Int32 ⊕ String) × SS) := ((X2_makePlan σ).bind (fun σ_1 => (if x1 = 0 then (X4_shoot_b26 σ_1) else (if (σ_1 0 6) = 0 then (X4_shoot_b27 σ_1 (1 : Int32)) else (X4_shoot_b26 σ_1)))))
def X4_approve (σ : SS) (x1 x2 : Int32) : Option ((Int32 ⊕ String) × SS) := (if (X4_isWithin x1 (0 : Int32) (3 : Int32)) = 0 then some (.inr "java/lang/IndexOutOfBoundsException", σ) else (if (X4_isWithin x2 (1 : Int32) (100000 : Int32)) = 0 then some (.inr "java/lang/IllegalArgumentException", σ) else (lt (fadd σ 14 4 x1 x2) (fun σ_3 => some (.inl (fat σ_3 14 4 x1), σ_3)))))
def X4_grant (σ : SS) (x1 : Int32) : Option ((Int32 ⊕ String) × SS) := (if (X4_isWithin x1 (1 : Int32) (100000 : Int32)) = 0 then some (.inr "java/lang/IllegalArgumentException", σ) else (lt (wr σ 3 1 ((σ 3 1) + x1)) (fun σ_2 => some (.inl (σ_2 3 1), σ_2))))
def X4_bill (σ : SS) (x1 x2 : Int32) : Option ((Int32 ⊕ String) × SS) := (if (X4_isWithin x1 (0 : Int32) (3 : Int32)) = 0 then some (.inr "java/lang/IndexOutOfBoundsException", σ) else (if (X4_isWithin x2 (1 : Int32) (100000 : Int32)) = 0 then some (.inr "java/lang/IllegalArgumentException", σ) else (if (X0_lackOf σ x1 x2) ≤ (σ 3 1) then (bd2 (X0_pay σ x1 x2) (fun r_4 σ_4 => some (.inl r_4, σ_4))) else some (.inr "java/lang/IllegalStateException", σ))))
def X1_appendLoan (σ : SS) (x1 x2 : Int32) : Option (Int32 × SS) := (lt (fput σ 15 10 (σ 4 7) x1) (fun σ_1 => (lt (fput σ_1 16 10 (σ_1 4 7) x2) (fun σ_2 => (lt (wr σ_2 4 7 ((σ_2 4 7) + (1 : Int32))) (fun σ_3 => some ((σ_3 4 7) - (1 : Int32), σ_3)))))))
def X4_loan (σ : SS) (x1 x2 : Int32) : Option ((Int32 ⊕ String) × SS) := (if (X4_isWithin x1 (0 : Int32) (5 : Int32)) = 0 then some (.inr "java/lang/IndexOutOfBoundsException", σ) else (if (X4_isWithin x2 (1 : Int32) (100000 : Int32)) = 0 then some (.inr "java/lang/IllegalArgumentException", σ) else (if (σ 4 7) < (10 : Int32) then (bd2 (X1_appendLoan σ x1 x2) (fun r_4 σ_4 => some (.inl r_4, σ_4))) else some (.inr "java/lang/IllegalStateException", σ))))
def X1_percentOf_b35 (k : SS → Int32 → Int32 → Int32 → Option Int32) (σ : SS) (x1 x2 x3 : Int32) : Option Int32 := (k σ x1 x2 (x3 + 1))
def fuel_X1_percentOf_4 : Nat := 64
def X1_percentOf_l4 : Nat → SS → Int32 → Int32 → Int32 → Option Int32
  | 0, _, _, _, _ => none
  | n + 1, σ, x1, x2, x3 => (if (σ 4 8) ≤ x3 then some x2 else (if (fat σ 17 12 x3) = x1 then (X1_percentOf_b35 (X1_percentOf_l4 n) σ x1 (x2 + (fat σ 19 12 x3)) x3) else (X1_percentOf_b35 (X1_percentOf_l4 n) σ x1 x2 x3)))
def X1_percentOf (σ : SS) (x1 : Int32) : Option Int32 := (X1_percentOf_l4 fuel_X1_percentOf_4 σ x1 (0 : Int32) (0 : Int32))
def X1_appendPart (σ : SS) (x1 x2 x3 : Int32) : Option (Int32 × SS) := (lt (fput σ 17 12 (σ 4 8) x1) (fun σ_1 => (lt (fput σ_1 18 12 (σ_1 4 8) x2) (fun σ_2 => (lt (fput σ_2 19 12 (σ_2 4 8) x3) (fun σ_3 => (lt (wr σ_3 4 8 ((σ_3 4 8) + (1 : Int32))) (fun σ_4 => some ((σ_4 4 8) - (1 : Int32), σ_4)))))))))
def X4_part_b79 (τ : SS) : Option ((Int32 ⊕ String) × SS) := some (.inr "java/lang/IllegalStateException", τ)
def X4_part_b26 (τ : SS) : Option ((Int32 ⊕ String) × SS) := some (.inr "java/lang/IndexOutOfBoundsException", τ)
def X4_part (σ : SS) (x1 x2 x3 : Int32) : Option ((Int32 ⊕ String) × SS) := (if (X4_isWithin x1 (-1 : Int32) ((σ 4 8) - (1 : Int32))) = 0 then (X4_part_b26 σ) else (if (X4_isWithin x2 (0 : Int32) (5 : Int32)) = 0 then (X4_part_b26 σ) else (if (X4_isWithin x3 (1 : Int32) (100 : Int32)) = 0 then some (.inr "java/lang/IllegalArgumentException", σ) else (if (12 : Int32) ≤ (σ 4 8) then (X4_part_b79 σ) else ((X1_percentOf σ x1).bind (fun r_5 => (if (r_5 + x3) ≤ (100 : Int32) then (bd2 (X1_appendPart σ x1 x2 x3) (fun r_7 σ_7 => some (.inl r_7, σ_7))) else (X4_part_b79 σ))))))))
def X0_payBack (σ : SS) (x1 : Int32) : Option (Int32 × SS) := (lt (wr σ 3 3 ((σ 3 3) - (imin x1 (σ 3 3)))) (fun σ_1 => some (x1 - (imin x1 (σ 3 3)), σ_1)))
def fuel_X1_payBackLoans_4 : Nat := 64
def X1_payBackLoans_l4 : Nat → SS → Int32 → Int32 → Option (Int32 × SS)
  | 0, _, _, _ => none
  | n + 1, τ, x2, x3 => (if (τ 4 7) ≤ x3 then some (x2, τ) else (lt (fadd τ 16 10 x3 (-(imin x2 (fat τ 16 10 x3)))) (fun σ_2 => (lt (fadd σ_2 21 6 (fat σ_2 15 10 x3) (imin x2 (fat τ 16 10 x3))) (fun σ_3 => (X1_payBackLoans_l4 n σ_3 (x2 - (imin x2 (fat τ 16 10 x3))) (x3 + 1)))))))
def X1_payBackLoans (σ : SS) (x1 : Int32) : Option (Int32 × SS) := (X1_payBackLoans_l4 fuel_X1_payBackLoans_4 σ x1 (0 : Int32))
def X1_share_b115 (k : SS → Int32 → Int32 → Int32 → Option SS) (τ : SS) (x1 x2 x3 : Int32) : Option SS := (k τ x1 x2 (x3 + 1))
def X1_share_b41 (k : SS → Int32 → Int32 → Int32 → Option SS) (τ : SS) (x1 x2 x3 x4 y0 : Int32) : Option SS := (lt (fput τ 20 12 x3 ((y0 * (fat τ 19 12 x3)) / (100 : Int32))) (fun σ_4 => (lt (fadd σ_4 21 6 (fat σ_4 18 12 x3) ((y0 * (fat τ 19 12 x3)) / (100 : Int32))) (fun σ_5 => (if x4 = (-1 : Int32) then (X1_share_b115 k σ_5 x1 (x2 - ((y0 * (fat τ 19 12 x3)) / (100 : Int32))) x3) else (lt (fadd σ_5 21 6 (fat σ_5 18 12 x4) (-((y0 * (fat τ 19 12 x3)) / (100 : Int32)))) (fun σ_7 => (X1_share_b115 k σ_7 x1 x2 x3))))))))
def fuel_X1_share_4 : Nat := 64
def X1_share_l4 : Nat → SS → Int32 → Int32 → Int32 → Option SS
  | 0, _, _, _, _ => none
  | n + 1, τ, x1, x2, x3 => (if (τ 4 8) ≤ x3 then (lt (wr τ 4 9 ((τ 4 9) + x2)) (fun σ_2 => some σ_2)) else (if (fat τ 17 12 x3) = (-1 : Int32) then (X1_share_b41 (X1_share_l4 n) τ x1 x2 x3 (fat τ 17 12 x3) x1) else (X1_share_b41 (X1_share_l4 n) τ x1 x2 x3 (fat τ 17 12 x3) (fat τ 20 12 (fat τ 17 12 x3)))))
def X1_share (σ : SS) (x1 : Int32) : Option SS := (X1_share_l4 fuel_X1_share_4 σ x1 x1 (0 : Int32))
def X4_income (σ : SS) (x1 : Int32) : Option ((Int32 ⊕ String) × SS) := (if (X4_isWithin x1 (1 : Int32) (1000000 : Int32)) = 0 then some (.inr "java/lang/IllegalArgumentException", σ) else (bd2 (X0_payBack σ x1) (fun r_2 σ_2 => (bd2 (X1_payBackLoans σ_2 r_2) (fun r_3 σ_3 => ((X1_share σ_3 r_3).bind (fun σ_4 => some (.inl r_3, σ_4))))))))
def X4_today (σ : SS) : Int32 := σ 1 6
def X4_shot (σ : SS) : Int32 := σ 2 6
def X4_days (σ : SS) : Option (Int32 × SS) := ((X2_makePlan σ).bind (fun σ_1 => some (σ_1 1 5, σ_1)))
def X2_fewestOfAll_b81 (rec : SS → Int32 → Int32 → Option (Int32 × SS)) (k : SS → Int32 → Int32 → Int32 → Int32 → Option (Int32 × SS)) (τ : SS) (x1 x2 x3 x4 : Int32) : Option (Int32 × SS) := (k τ x1 x2 x3 (x4 + 1))
def fuel_X2_fewestOfAll_29 : Nat := 64
def X2_fewestOfAll_l29 (rec : SS → Int32 → Int32 → Option (Int32 × SS)) : Nat → SS → Int32 → Int32 → Int32 → Int32 → Option (Int32 × SS)
  | 0, _, _, _, _, _ => none
  | n + 1, τ, x1, x2, x3, x4 => (if (τ 2 5) ≤ x4 then some (x3, τ) else (if (X3_canFollow τ x4 x2) = 0 then (X2_fewestOfAll_b81 rec (X2_fewestOfAll_l29 rec n) τ x1 x2 x3 x4) else ((X2_place τ x4 x1 x2).bind (fun σ_5 => (bd2 (rec σ_5 (x1 + (1 : Int32)) (X4_with x2 x4 (1 : Int32))) (fun r_6 σ_6 => (X2_fewestOfAll_b81 rec (X2_fewestOfAll_l29 rec n) σ_6 x1 x2 (imin x3 r_6) x4)))))))
def X2_fewestOfAll_b17 (rec : SS → Int32 → Int32 → Option (Int32 × SS)) (τ : SS) (x1 : Int32) : Option (Int32 × SS) := some (X2_daysUpTo τ x1, τ)
def X2_fewestOfAll : Nat → SS → Int32 → Int32 → Option (Int32 × SS)
  | 0, _, _, _ => none
  | n + 1, σ, x1, x2 => (if x2 = (X3_everyScene σ) then (X2_fewestOfAll_b17 (X2_fewestOfAll n) σ x1) else (if x1 < (8 : Int32) then (X2_fewestOfAll_l29 (X2_fewestOfAll n) fuel_X2_fewestOfAll_29 σ x1 x2 (9 : Int32) (0 : Int32)) else (X2_fewestOfAll_b17 (X2_fewestOfAll n) σ x1)))
def X2_fewestDays (σ : SS) : Option (Int32 × SS) := (bd2 (X2_fewestOfAll 16 σ (0 : Int32) (σ 2 6)) (fun r_1 σ_1 => some (r_1, σ_1)))
def X4_daysByAll (σ : SS) : Option ((Int32 ⊕ String) × SS) := (if (X3_countOpen σ) ≤ (6 : Int32) then (bd2 (X2_fewestDays σ) (fun r_2 σ_2 => some (.inl r_2, σ_2))) else some (.inr "java/lang/IllegalStateException", σ))
def X4_planned (σ : SS) (x1 : Int32) : Option ((Int32 ⊕ String) × SS) := (if (X4_isWithin x1 (0 : Int32) ((X3_countOpen σ) - (1 : Int32))) = 0 then some (.inr "java/lang/IndexOutOfBoundsException", σ) else ((X2_makePlan σ).bind (fun σ_2 => some (.inl (fat σ_2 12 8 x1), σ_2))))
def X4_begins (σ : SS) (x1 : Int32) : Option ((Int32 ⊕ String) × SS) := (if (X4_isWithin x1 (0 : Int32) ((σ 2 5) - (1 : Int32))) = 0 then some (.inr "java/lang/IndexOutOfBoundsException", σ) else ((X2_makePlan σ).bind (fun σ_2 => some (.inl (fat σ_2 13 8 x1), σ_2))))
def X4_left (σ : SS) (x1 : Int32) : Option ((Int32 ⊕ String) × SS) := (if (X4_isWithin x1 (0 : Int32) (3 : Int32)) = 0 then some (.inr "java/lang/IndexOutOfBoundsException", σ) else some (.inl (fat σ 14 4 x1), σ))
def X4_fee (σ : SS) : Int32 := σ 3 1
def X4_costs (σ : SS) : Int32 := σ 3 2
def X4_open (σ : SS) : Int32 := σ 3 3
def X4_openOf (σ : SS) (x1 : Int32) : Option ((Int32 ⊕ String) × SS) := (if (X4_isWithin x1 (0 : Int32) ((σ 4 7) - (1 : Int32))) = 0 then some (.inr "java/lang/IndexOutOfBoundsException", σ) else some (.inl (fat σ 16 10 x1), σ))
def X4_got (σ : SS) (x1 : Int32) : Option ((Int32 ⊕ String) × SS) := (if (X4_isWithin x1 (0 : Int32) (5 : Int32)) = 0 then some (.inr "java/lang/IndexOutOfBoundsException", σ) else some (.inl (fat σ 21 6 x1), σ))
def X4_house (σ : SS) : Int32 := σ 4 9

