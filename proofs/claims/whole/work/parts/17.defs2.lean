def zV {α : Type} (f : Nat → α) (j : Nat) (x : α) : Nat → α := fun i => if i = j then x else f i
section ZNULL
variable {D : va_G} {ca : Nat → ClassId} {Γ : ZG} {cc : ByteArray} {own : String} {nL : Nat} {R : Room} {k n : Nat} {ws : va_W} {pc : Nat} {lv : List (Nat × Value)} {st : List Value}
theorem g_aloadN (C : Zx D ca Γ cc own nL R) (q : Nat) {j : Nat} (d : decode cc pc = .ok (.aload j, 2)) (hq : lv[q]? = some (j, .null)) (kk : Zd D Γ k n ws (pc + 2) lv (.null :: st)) : Zd D Γ k n ws pc lv st := by
  intro H locs ls hP hD hS hl
  exact lv_aloadN C.hx C.hb d (lv_at hl q hq) (kk H locs ls hP hD hS hl)
theorem g_astoreN_n (C : Zx D ca Γ cc own nL R) {i : Fin 4} {j : Nat} {lv' : List (Nat × Value)} (d : decode cc pc = .ok (.astore_n i, 1)) (hi : (i : Nat) = j) (hj : j < nL) (hl' : (j, Value.null) :: lv.filter (fun q => !(q.1 == j) && !(q.1 + 1 == j && q.2.category == 2)) = lv') (kk : Zd D Γ k n ws (pc + 1) lv' st) : Zd D Γ k n ws pc lv (.null :: st) := by
  intro H locs ls hP hD hS hl
  exact lv_astore_nN C.hx C.hb d hi hl (by rw [C.hn]; exact hj) hl' (fun ls hl => kk H locs ls hP hD hS hl)
theorem g_astoreN (C : Zx D ca Γ cc own nL R) {j : Nat} {lv' : List (Nat × Value)} (d : decode cc pc = .ok (.astore j, 2)) (hj : j < nL) (hl' : (j, Value.null) :: lv.filter (fun q => !(q.1 == j) && !(q.1 + 1 == j && q.2.category == 2)) = lv') (kk : Zd D Γ k n ws (pc + 2) lv' st) : Zd D Γ k n ws pc lv (.null :: st) := by
  intro H locs ls hP hD hS hl
  exact lv_astoreN C.hx C.hb d hl (by rw [C.hn]; exact hj) hl' (fun ls hl => kk H locs ls hP hD hS hl)
end ZNULL
theorem zres {l : Launch} {D : va_G} {ca : Nat → ClassId} {y : MethodName} {cc : ByteArray} {maxL : Nat} {ret : Option FieldType} {rm : Room} {av : List Value} {wc : va_W} {res res' : Option Value} {wc' : (Nat → Nat) → va_W} (h : Zc l D ca y cc maxL ret rm av wc res wc') (e : res = res') : Zc l D ca y cc maxL ret rm av wc res' wc' := e ▸ h
def fX5_makeRoom (pl_marks : Int) (pl_mostTaken : Int) (pl_mostExtended : Int) (pl_least : Nat → Int) (pl_L : Nat) (pl_B : Nat) : Option ((Nat → Int) × Nat) :=
(fX5_placeOf pl_marks 0 0 pl_mostTaken pl_mostExtended).bind (fun r_7 =>
if zR r_7 ∧ zR (pl_L : Int) then
(if r_7 ≤ (pl_L : Int) then
some (pl_least, pl_L)
else
if zR r_7 ∧ zR (2 * (pl_L : Int)) then
(if (0 ≤ (max r_7 (2 * (pl_L : Int))) ∧ (max r_7 (2 * (pl_L : Int))) ≤ 60000000) ∧ (max r_7 (2 * (pl_L : Int))).toNat ≤ pl_B ∧ 1 ≤ (max r_7 (2 * (pl_L : Int))).toNat then
some ((fun _ => 0), (max r_7 (2 * (pl_L : Int))).toNat)
else none)
else none)
else none)
def fX5_findPrices_15 (lw_numbers : Nat → Int) (pl_minute : Nat → Int) (pl_drive : Nat → Int) (pl_enough : Nat → Int) (pl_endedBy : Nat → Int) (pl_ownPrice : Nat → Int) (pl_marks : Int) (pl_mostTaken : Int) (pl_mostExtended : Int) (pl_L : Nat) (rd_total : Int) (rec15 : Int × (Nat → Int) → Option ((Nat → Int) × (Nat → Int) × (Nat → Int) × (Nat → Int) × (Nat → Int) × Int × Int × Int × (Nat → Int) × Nat)) : Int × (Nat → Int) → Option ((Nat → Int) × (Nat → Int) × (Nat → Int) × (Nat → Int) × (Nat → Int) × Int × Int × Int × (Nat → Int) × Nat) := fun (v1, pl_least) =>
if zR v1 then
(if v1 < 0 then
some (pl_minute, pl_drive, pl_enough, pl_endedBy, pl_ownPrice, pl_marks, pl_mostTaken, pl_mostExtended, pl_least, pl_L)
else
(fX5_findLeast v1 lw_numbers pl_minute pl_drive pl_enough pl_endedBy pl_ownPrice pl_marks pl_mostTaken pl_mostExtended pl_least pl_L rd_total).bind (fun pl_least_21 =>
rec15 ((v1 + (-1)), pl_least_21)))
else none
def fX5_findPrices  (lw_numbers : Nat → Int) (pl_minute : Nat → Int) (pl_drive : Nat → Int) (pl_enough : Nat → Int) (pl_endedBy : Nat → Int) (pl_ownPrice : Nat → Int) (pl_marks : Int) (pl_mostTaken : Int) (pl_mostExtended : Int) (pl_least : Nat → Int) (pl_L : Nat) (pl_B : Nat) (rd_runFrom : Nat → Int) (rd_runTo : Nat → Int) (rd_runDrive : Nat → Int) (rd_total : Int) (rd_drive : Int) (rd_runs : Int) : Option ((Nat → Int) × (Nat → Int) × (Nat → Int) × (Nat → Int) × (Nat → Int) × Int × Int × Int × (Nat → Int) × Nat) :=
(fX5_findMarks lw_numbers pl_minute pl_drive pl_enough pl_endedBy pl_ownPrice pl_marks pl_mostTaken pl_mostExtended rd_runFrom rd_runTo rd_runDrive rd_total rd_drive rd_runs).bind (fun (pl_minute_1, pl_drive_1, pl_enough_1, pl_endedBy_1, pl_ownPrice_1, pl_marks_1, pl_mostTaken_1, pl_mostExtended_1) =>
(fX5_makeRoom pl_marks_1 pl_mostTaken_1 pl_mostExtended_1 pl_least pl_L pl_B).bind (fun (pl_least_5, pl_L_5) =>
zlp (fX5_findPrices_15 lw_numbers pl_minute_1 pl_drive_1 pl_enough_1 pl_endedBy_1 pl_ownPrice_1 pl_marks_1 pl_mostTaken_1 pl_mostExtended_1 pl_L_5 rd_total) zF ((pl_marks_1 - 1), pl_least_5)))
def fX4_placeOf_2 (v0 : Int) (rec2 : Int → Option (Int)) : Int → Option (Int) := fun v1 =>
if zR v1 then
(if 11 ≤ v1 then
some (-1)
else
if 0 ≤ v1 ∧ v1 < 11 then
(if zR (zLet v1.toNat) ∧ zR v0 then
(if (zLet v1.toNat) ≠ v0 then
rec2 (v1 + 1)
else
some v1)
else none)
else none)
else none
def fX4_placeOf (v0 : Int)  : Option (Int) :=
zlp (fX4_placeOf_2 v0) zF 0
def fX4_tell_26 (v3 : Int) (p1 : Nat → Int) (lw_numbers : Nat → Int) (rec26 : Int × (Nat → Int) → Option (Int × (Nat → Int) × (Nat → Int))) : Int × (Nat → Int) → Option (Int × (Nat → Int) × (Nat → Int)) := fun (v4, lw_told) =>
if zR v4 ∧ zR v3 then
(if v3 ≤ v4 then
some ((100 + v3), lw_numbers, lw_told)
else
if 0 ≤ v4 ∧ v4 < 80 then
((fX4_placeOf (p1 v4.toNat)).bind (fun r_36 =>
if zR r_36 then
(if r_36 ≠ (-1) then
(fX4_endOfDigits (v4 + 1) v3 p1).bind (fun r_63 =>
if zR r_63 ∧ zR (v4 + 1) then
(if r_63 ≠ (v4 + 1) then
if zR (r_63 - (v4 + 1)) then
(if (r_63 - (v4 + 1)) ≤ 4 then
(fX4_numberOf (v4 + 1) r_63 p1).bind (fun r_105 =>
(fX4_canBe r_36 r_105).bind (fun r_114 =>
if zR r_114 then
(if r_114 ≠ 0 then
if 0 ≤ r_36 ∧ r_36 < 11 then
(if zR r_63 ∧ zR v3 then
(if r_63 < v3 then
if 0 ≤ r_63 ∧ r_63 < 80 then
(if zR (p1 r_63.toNat) then
(if (p1 r_63.toNat) = 59 then
rec26 ((r_63 + 1), (zU lw_told r_36.toNat r_105))
else
some ((500 + r_63), lw_numbers, (zU lw_told r_36.toNat r_105)))
else none)
else none
else
if ((0 : Int) ≤ 0 ∧ (0 : Int) ≤ 0 ∧ (0 : Int) ≤ 11) ∧ 0 + 11 ≤ 11 ∧ 0 + 11 ≤ 11 then
(some (0, (zcp (zU lw_told r_36.toNat r_105) lw_numbers (0 : Int).toNat (0 : Int).toNat (11 : Int).toNat), (zU lw_told r_36.toNat r_105)))
else none)
else none)
else none
else
some ((400 + (v4 + 1)), lw_numbers, lw_told))
else none))
else
some (((300 + (v4 + 1)) + 4), lw_numbers, lw_told))
else none
else
some ((200 + (v4 + 1)), lw_numbers, lw_told))
else none)
else
some ((100 + v4), lw_numbers, lw_told))
else none))
else none)
else none
def fX4_tell (v2 : Int) (p1 : Nat → Int) (lw_numbers : Nat → Int) (lw_told : Nat → Int) : Option (Int × (Nat → Int) × (Nat → Int)) :=
if zR v2 ∧ zR 80 then
(if ((0 : Int) ≤ 0 ∧ (0 : Int) ≤ 0 ∧ (0 : Int) ≤ 11) ∧ 0 + 11 ≤ 11 ∧ 0 + 11 ≤ 11 then
(zlp (fX4_tell_26 (min v2 80) p1 lw_numbers) zF (0, (zcp zAtf lw_told (0 : Int).toNat (0 : Int).toNat (11 : Int).toNat)))
else none)
else none
def fX2_compare_68 (rec39 : Int × Int × (Nat → Int) × Int → Option ((Nat → Int) × Int × Int × Int × Int × Int)) (v7 : Int) (s0 : Int) (s1 : Int) (cp_actAt : Nat → Int) (cp_next : Int) : Option ((Nat → Int) × Int × Int × Int × Int × Int) :=
rec39 ((s0 + s1), (v7 + 1), cp_actAt, cp_next)
def fX2_compare_39 (rec10 : Int × Int × (Nat → Int) × Int × Int × Int × Int × Int → Option ((Nat → Int) × Int × Int × Int × Int × Int)) (v3 : Int) (v4 : Int) (v5 : Int) (Cd_kind : Nat → Nat → Int) (Cd_vehicle : Nat → Nat → Int) (Cd_begin : Nat → Nat → Int) (Cd_acts : Nat → Int) (cp_tripAt : Int) (cp_withoutCard : Int) (cp_withMoreCards : Int) (cp_withoutTrip : Int) (tr_from : Nat → Int) (tr_to : Nat → Int) (tr_size : Int) (rec39 : Int × Int × (Nat → Int) × Int → Option ((Nat → Int) × Int × Int × Int × Int × Int)) : Int × Int × (Nat → Int) × Int → Option ((Nat → Int) × Int × Int × Int × Int × Int) := fun (v6, v7, cp_actAt, cp_next) =>
if zR v7 then
(if 4 ≤ v7 then
(fX2_isOnTrip v4 cp_tripAt cp_next tr_from tr_to tr_size).bind (fun (r_81, cp_tripAt_81, cp_next_81) =>
(fX2_addMinutes (cp_next_81 - v4) v6 r_81 cp_withoutCard cp_withMoreCards cp_withoutTrip).bind (fun (cp_withoutCard_98, cp_withMoreCards_98, cp_withoutTrip_98) =>
rec10 (cp_next_81, (v5 + 1), cp_actAt, cp_tripAt_81, cp_next_81, cp_withoutCard_98, cp_withMoreCards_98, cp_withoutTrip_98)))
else
if 0 ≤ v7 ∧ v7 < 4 then
((fX2_isDriven v7 v4 v3 (Cd_kind v7.toNat) (Cd_vehicle v7.toNat) (Cd_begin v7.toNat) (Cd_acts v7.toNat) cp_actAt cp_next).bind (fun (r_57, cp_actAt_57, cp_next_57) =>
if zR r_57 then
(if r_57 = 0 then
fX2_compare_68 rec39 v7 v6 0 cp_actAt_57 cp_next_57
else
fX2_compare_68 rec39 v7 v6 1 cp_actAt_57 cp_next_57)
else none))
else none)
else none
def fX2_compare_10 (v3 : Int) (Cd_kind : Nat → Nat → Int) (Cd_vehicle : Nat → Nat → Int) (Cd_begin : Nat → Nat → Int) (Cd_acts : Nat → Int) (tr_from : Nat → Int) (tr_to : Nat → Int) (tr_size : Int) (rec10 : Int × Int × (Nat → Int) × Int × Int × Int × Int × Int → Option ((Nat → Int) × Int × Int × Int × Int × Int)) : Int × Int × (Nat → Int) × Int × Int × Int × Int × Int → Option ((Nat → Int) × Int × Int × Int × Int × Int) := fun (v4, v5, cp_actAt, cp_tripAt, cp_next, cp_withoutCard, cp_withMoreCards, cp_withoutTrip) =>
if zR v5 then
(if 281 ≤ v5 then
some (cp_actAt, cp_tripAt, cp_next, cp_withoutCard, cp_withMoreCards, cp_withoutTrip)
else
if zR v4 then
(if 20160 ≤ v4 then
some (cp_actAt, cp_tripAt, cp_next, cp_withoutCard, cp_withMoreCards, cp_withoutTrip)
else
zlp (fX2_compare_39 rec10 v3 v4 v5 Cd_kind Cd_vehicle Cd_begin Cd_acts cp_tripAt cp_withoutCard cp_withMoreCards cp_withoutTrip tr_from tr_to tr_size) zF (0, 0, cp_actAt, 20160))
else none)
else none
def fX2_compare (v3 : Int) (Cd_kind : Nat → Nat → Int) (Cd_vehicle : Nat → Nat → Int) (Cd_begin : Nat → Nat → Int) (Cd_acts : Nat → Int) (cp_actAt : Nat → Int) (cp_tripAt : Int) (cp_next : Int) (cp_withoutCard : Int) (cp_withMoreCards : Int) (cp_withoutTrip : Int) (tr_from : Nat → Int) (tr_to : Nat → Int) (tr_size : Int) : Option ((Nat → Int) × Int × Int × Int × Int × Int) :=
(fX2_startAgain cp_actAt cp_tripAt cp_withoutCard cp_withMoreCards cp_withoutTrip).bind (fun (cp_actAt_1, cp_tripAt_1, cp_withoutCard_1, cp_withMoreCards_1, cp_withoutTrip_1) =>
zlp (fX2_compare_10 v3 Cd_kind Cd_vehicle Cd_begin Cd_acts tr_from tr_to tr_size) zF (0, 0, cp_actAt_1, cp_tripAt_1, cp_next, cp_withoutCard_1, cp_withMoreCards_1, cp_withoutTrip_1))
def fX10_isKind_17  : Option (Int) :=
some 0
def fX10_isKind_32  : Option (Int) :=
some 0
def fX10_isKind (v0 : Int) (v1 : Int)  : Option (Int) :=
if zR v0 then
(if v0 ≠ 0 then
if zR v0 then
(if v0 ≤ 0 then
fX10_isKind_32
else
if zR v0 then
(if 5 ≤ v0 then
fX10_isKind_32
else
some 1)
else none)
else none
else
if zR v1 then
(if v1 < 0 then
fX10_isKind_17
else
if zR v1 then
(if 2 ≤ v1 then
fX10_isKind_17
else
some 1)
else none)
else none)
else none
def fX10_cardOf_18  : Option (Int) :=
some (-1)
def fX10_cardOf (v1 : Int)  : Option (Int) :=
if zR v1 then
(if v1 < 0 then
fX10_cardOf_18
else
if zR v1 then
(if 4 ≤ v1 then
fX10_cardOf_18
else
if 0 ≤ v1 ∧ v1 < 4 then
(some v1)
else none)
else none)
else none
def fX10_tripsOf_18  : Option (Int) :=
some (-1)
def fX10_tripsOf (v1 : Int)  : Option (Int) :=
if zR v1 then
(if v1 < 0 then
fX10_tripsOf_18
else
if zR v1 then
(if 2 ≤ v1 then
fX10_tripsOf_18
else
if 0 ≤ v1 ∧ v1 < 2 then
(some v1)
else none)
else none)
else none
def fX10_feed (v1 : Int) (v2 : Int) (v3 : Int) (v4 : Int) (v5 : Int) (tp_bytes : Nat → Int) (tp_size : Int) : Option (Int × (Nat → Int) × Int) :=
(fX7_hasRoom tp_size).bind (fun r_4 =>
if zR r_4 then
(if r_4 ≠ 0 then
(fX7_append v1 tp_bytes tp_size).bind (fun (tp_bytes_17, tp_size_17) =>
(fX7_append v2 tp_bytes_17 tp_size_17).bind (fun (tp_bytes_25, tp_size_25) =>
(fX7_append v3 tp_bytes_25 tp_size_25).bind (fun (tp_bytes_33, tp_size_33) =>
(fX7_append v4 tp_bytes_33 tp_size_33).bind (fun (tp_bytes_42, tp_size_42) =>
(fX7_append v5 tp_bytes_42 tp_size_42).bind (fun (tp_bytes_51, tp_size_51) =>
some (tp_size_51, tp_bytes_51, tp_size_51))))))
else
some ((-1), tp_bytes, tp_size))
else none)
def fX10_law_15 (lw_numbers : Nat → Int) (lw_told : Nat → Int) (tp_size : Int) : Option (Int × (Nat → Int) × (Nat → Int) × Int) :=
some ((-1), lw_numbers, lw_told, tp_size)
def fX10_law (v1 : Int) (lw_numbers : Nat → Int) (lw_told : Nat → Int) (tp_bytes : Nat → Int) (tp_size : Int) : Option (Int × (Nat → Int) × (Nat → Int) × Int) :=
if zR v1 then
(if v1 < 0 then
fX10_law_15 lw_numbers lw_told tp_size
else
if zR v1 ∧ zR tp_size then
(if v1 ≤ tp_size then
(fX4_tell v1 tp_bytes lw_numbers lw_told).bind (fun (r_37, lw_numbers_37, lw_told_37) =>
some (r_37, lw_numbers_37, lw_told_37, 0))
else
fX10_law_15 lw_numbers lw_told tp_size)
else none)
else none
def fX10_rule (v1 : Int) (lw_numbers : Nat → Int) : Option (Int) :=
(fX4_placeOf v1).bind (fun r_1 =>
if zR r_1 then
(if r_1 ≠ (-1) then
if 0 ≤ r_1 ∧ r_1 < 11 then
(some (lw_numbers r_1.toNat))
else none
else
some (-1))
else none)
def fX10_act_30 (Cd_kind : Nat → Nat → Int) (Cd_vehicle : Nat → Nat → Int) (Cd_begin : Nat → Nat → Int) (Cd_acts : Nat → Int) : Option (Int × (Nat → Nat → Int) × (Nat → Nat → Int) × (Nat → Nat → Int) × (Nat → Int)) :=
some ((-1), Cd_kind, Cd_vehicle, Cd_begin, Cd_acts)
def fX10_act (v1 : Int) (v2 : Int) (v3 : Int) (v4 : Int) (Cd_kind : Nat → Nat → Int) (Cd_vehicle : Nat → Nat → Int) (Cd_begin : Nat → Nat → Int) (Cd_acts : Nat → Int) : Option (Int × (Nat → Nat → Int) × (Nat → Nat → Int) × (Nat → Nat → Int) × (Nat → Int)) :=
(fX10_cardOf v1).bind (fun r_2 =>
if zR r_2 then
(if r_2 < 0 then
fX10_act_30 Cd_kind Cd_vehicle Cd_begin Cd_acts
else
if r_2 < 4 then
((fX10_isKind v2 v4).bind (fun r_15 =>
if zR r_15 then
(if r_15 = 0 then
fX10_act_30 Cd_kind Cd_vehicle Cd_begin Cd_acts
else
(fX1_hasRoom v3 (Cd_begin r_2.toNat) (Cd_acts r_2.toNat)).bind (fun r_24 =>
if zR r_24 then
(if r_24 ≠ 0 then
(fX1_append v2 v3 v4 (Cd_kind r_2.toNat) (Cd_vehicle r_2.toNat) (Cd_begin r_2.toNat) (Cd_acts r_2.toNat)).bind (fun (r_38, cd_kind_38, cd_vehicle_38, cd_begin_38, cd_acts_38) =>
some (r_38, (zV Cd_kind r_2.toNat cd_kind_38), (zV Cd_vehicle r_2.toNat cd_vehicle_38), (zV Cd_begin r_2.toNat cd_begin_38), (zV Cd_acts r_2.toNat cd_acts_38)))
else
fX10_act_30 Cd_kind Cd_vehicle Cd_begin Cd_acts)
else none))
else none))
else none)
else none)
def fX10_put_30 (Cd_kind : Nat → Nat → Int) (Cd_vehicle : Nat → Nat → Int) : Option (Int × (Nat → Nat → Int) × (Nat → Nat → Int)) :=
some (0, Cd_kind, Cd_vehicle)
def fX10_put (v1 : Int) (v2 : Int) (v3 : Int) (v4 : Int) (Cd_kind : Nat → Nat → Int) (Cd_vehicle : Nat → Nat → Int) (Cd_acts : Nat → Int) : Option (Int × (Nat → Nat → Int) × (Nat → Nat → Int)) :=
(fX10_cardOf v1).bind (fun r_2 =>
if zR r_2 then
(if r_2 < 0 then
fX10_put_30 Cd_kind Cd_vehicle
else
if r_2 < 4 then
((fX1_has v2 (Cd_acts r_2.toNat)).bind (fun r_15 =>
if zR r_15 then
(if r_15 = 0 then
fX10_put_30 Cd_kind Cd_vehicle
else
(fX10_isKind v3 v4).bind (fun r_24 =>
if zR r_24 then
(if r_24 ≠ 0 then
(fX1_change v2 v3 v4 (Cd_kind r_2.toNat) (Cd_vehicle r_2.toNat)).bind (fun (cd_kind_38, cd_vehicle_38) =>
some (1, (zV Cd_kind r_2.toNat cd_kind_38), (zV Cd_vehicle r_2.toNat cd_vehicle_38)))
else
fX10_put_30 Cd_kind Cd_vehicle)
else none))
else none))
else none)
else none)
def fX10_trip_28 (Tr_from : Nat → Nat → Int) (Tr_to : Nat → Nat → Int) (Tr_size : Nat → Int) : Option (Int × (Nat → Nat → Int) × (Nat → Nat → Int) × (Nat → Int)) :=
some (0, Tr_from, Tr_to, Tr_size)
def fX10_trip (v1 : Int) (v2 : Int) (v3 : Int) (Tr_from : Nat → Nat → Int) (Tr_to : Nat → Nat → Int) (Tr_size : Nat → Int) : Option (Int × (Nat → Nat → Int) × (Nat → Nat → Int) × (Nat → Int)) :=
(fX10_tripsOf v1).bind (fun r_2 =>
if zR r_2 then
(if r_2 < 0 then
fX10_trip_28 Tr_from Tr_to Tr_size
else
if r_2 < 2 then
(if zR v2 then
(if v2 < 0 then
fX10_trip_28 Tr_from Tr_to Tr_size
else
if zR v2 ∧ zR v3 then
(if v3 ≤ v2 then
fX10_trip_28 Tr_from Tr_to Tr_size
else
if zR v3 then
(if v3 ≤ 20160 then
(fX8_insert v2 v3 (Tr_from r_2.toNat) (Tr_to r_2.toNat) (Tr_size r_2.toNat)).bind (fun (r_34, tr_from_34, tr_to_34, tr_size_34) =>
if r_34 = 0 ∨ r_34 = 1 then
(some (r_34, (zV Tr_from r_2.toNat tr_from_34), (zV Tr_to r_2.toNat tr_to_34), (zV Tr_size r_2.toNat tr_size_34)))
else none)
else
fX10_trip_28 Tr_from Tr_to Tr_size)
else none)
else none)
else none)
else none)
else none)
def fX10_findDays (v2 : Int) (cd_kind : Nat → Int) (cd_begin : Nat → Int) (cd_acts : Int) (dy_from : Nat → Int) (dy_to : Nat → Int) (dy_drive : Nat → Int) (dy_extended : Nat → Int) (dy_endedBy : Nat → Int) (dy_over : Nat → Int) (dy_late : Nat → Int) (dy_size : Int) (lw_numbers : Nat → Int) (pl_minute : Nat → Int) (pl_drive : Nat → Int) (pl_enough : Nat → Int) (pl_endedBy : Nat → Int) (pl_ownPrice : Nat → Int) (pl_marks : Int) (pl_mostTaken : Int) (pl_mostExtended : Int) (pl_least : Nat → Int) (pl_L : Nat) (pl_B : Nat) (rd_kind : Nat → Int) (rd_begin : Nat → Int) (rd_runFrom : Nat → Int) (rd_runTo : Nat → Int) (rd_runDrive : Nat → Int) (rd_acts : Int) (rd_total : Int) (rd_drive : Int) (rd_runs : Int) : Option ((Nat → Int) × (Nat → Int) × (Nat → Int) × (Nat → Int) × (Nat → Int) × (Nat → Int) × (Nat → Int) × Int × (Nat → Int) × (Nat → Int) × (Nat → Int) × (Nat → Int) × (Nat → Int) × Int × Int × Int × (Nat → Int) × Nat × (Nat → Int) × (Nat → Int) × (Nat → Int) × (Nat → Int) × (Nat → Int) × Int × Int × Int × Int) :=
(fX6_read v2 cd_kind cd_begin cd_acts rd_kind rd_begin rd_runFrom rd_runTo rd_runDrive rd_acts rd_total rd_drive rd_runs).bind (fun (rd_kind_6, rd_begin_6, rd_runFrom_6, rd_runTo_6, rd_runDrive_6, rd_acts_6, rd_total_6, rd_drive_6, rd_runs_6) =>
(fX5_findPrices lw_numbers pl_minute pl_drive pl_enough pl_endedBy pl_ownPrice pl_marks pl_mostTaken pl_mostExtended pl_least pl_L pl_B rd_runFrom_6 rd_runTo_6 rd_runDrive_6 rd_total_6 rd_drive_6 rd_runs_6).bind (fun (pl_minute_13, pl_drive_13, pl_enough_13, pl_endedBy_13, pl_ownPrice_13, pl_marks_13, pl_mostTaken_13, pl_mostExtended_13, pl_least_13, pl_L_13) =>
(fX5_tellDays dy_from dy_to dy_drive dy_extended dy_endedBy dy_over dy_late dy_size lw_numbers pl_minute_13 pl_drive_13 pl_enough_13 pl_endedBy_13 pl_ownPrice_13 pl_marks_13 pl_mostTaken_13 pl_mostExtended_13 pl_least_13 pl_L_13 rd_total_6).bind (fun (dy_from_20, dy_to_20, dy_drive_20, dy_extended_20, dy_endedBy_20, dy_over_20, dy_late_20, dy_size_20) =>
some (dy_from_20, dy_to_20, dy_drive_20, dy_extended_20, dy_endedBy_20, dy_over_20, dy_late_20, dy_size_20, pl_minute_13, pl_drive_13, pl_enough_13, pl_endedBy_13, pl_ownPrice_13, pl_marks_13, pl_mostTaken_13, pl_mostExtended_13, pl_least_13, pl_L_13, rd_kind_6, rd_begin_6, rd_runFrom_6, rd_runTo_6, rd_runDrive_6, rd_acts_6, rd_total_6, rd_drive_6, rd_runs_6))))
def fX10_tellOverInWeeks_76 (rec13 : Int × (Nat → Int) × (Nat → Int) × (Nat → Int) × Int → Option ((Nat → Int) × (Nat → Int) × (Nat → Int) × Int)) (v2 : Int) (br_minute : Nat → Int) (br_rule : Nat → Int) (br_much : Nat → Int) (br_size : Int) : Option ((Nat → Int) × (Nat → Int) × (Nat → Int) × Int) :=
rec13 ((v2 + 1), br_minute, br_rule, br_much, br_size)
def fX10_tellOverInWeeks_13 (v1 : Int) (rd_kind : Nat → Int) (rd_begin : Nat → Int) (rd_acts : Int) (rd_total : Int) (rec13 : Int × (Nat → Int) × (Nat → Int) × (Nat → Int) × Int → Option ((Nat → Int) × (Nat → Int) × (Nat → Int) × Int)) : Int × (Nat → Int) × (Nat → Int) × (Nat → Int) × Int → Option ((Nat → Int) × (Nat → Int) × (Nat → Int) × Int) := fun (v2, br_minute, br_rule, br_much, br_size) =>
if zR v2 then
(if 2 ≤ v2 then
some (br_minute, br_rule, br_much, br_size)
else
(fX6_driveAhead (v2 * 10080) rd_kind rd_begin rd_acts).bind (fun r_27 =>
(fX6_driveAhead ((v2 + 1) * 10080) rd_kind rd_begin rd_acts).bind (fun r_42 =>
if zR ((r_42 - r_27) - v1) then
(if ((r_42 - r_27) - v1) ≤ 0 then
fX10_tellOverInWeeks_76 rec13 v2 br_minute br_rule br_much br_size
else
(fX6_driveMinute (r_27 + v1) rd_kind rd_begin rd_acts rd_total).bind (fun r_67 =>
(fX0_insert r_67 4 ((r_42 - r_27) - v1) br_minute br_rule br_much br_size).bind (fun (br_minute_73, br_rule_73, br_much_73, br_size_73) =>
fX10_tellOverInWeeks_76 rec13 v2 br_minute_73 br_rule_73 br_much_73 br_size_73)))
else none)))
else none
def fX10_tellOverInWeeks  (br_minute : Nat → Int) (br_rule : Nat → Int) (br_much : Nat → Int) (br_size : Int) (lw_numbers : Nat → Int) (rd_kind : Nat → Int) (rd_begin : Nat → Int) (rd_acts : Int) (rd_total : Int) : Option ((Nat → Int) × (Nat → Int) × (Nat → Int) × Int) :=
zlp (fX10_tellOverInWeeks_13 (lw_numbers 10) rd_kind rd_begin rd_acts rd_total) zF (0, br_minute, br_rule, br_much, br_size)
def fX10_findBreaches  (br_minute : Nat → Int) (br_rule : Nat → Int) (br_much : Nat → Int) (br_size : Int) (dy_from : Nat → Int) (dy_drive : Nat → Int) (dy_extended : Nat → Int) (dy_over : Nat → Int) (dy_late : Nat → Int) (dy_size : Int) (lw_numbers : Nat → Int) (rd_kind : Nat → Int) (rd_begin : Nat → Int) (rd_runFrom : Nat → Int) (rd_runTo : Nat → Int) (rd_runDrive : Nat → Int) (rd_acts : Int) (rd_total : Int) (rd_drive : Int) (rd_runs : Int) (wh_base : Int) (wh_parted : Int) : Option ((Nat → Int) × (Nat → Int) × (Nat → Int) × Int × Int × Int) :=
(fX9_tellOver br_minute br_rule br_much 0 lw_numbers rd_kind rd_begin rd_runFrom rd_runTo rd_runDrive rd_acts rd_total rd_drive rd_runs wh_base wh_parted).bind (fun (br_minute_16, br_rule_16, br_much_16, br_size_16, wh_base_16, wh_parted_16) =>
(fX3_tellOverAndLate br_minute_16 br_rule_16 br_much_16 br_size_16 dy_from dy_drive dy_extended dy_over dy_late dy_size lw_numbers rd_kind rd_begin rd_acts rd_total).bind (fun (br_minute_35, br_rule_35, br_much_35, br_size_35) =>
(fX10_tellOverInWeeks br_minute_35 br_rule_35 br_much_35 br_size_35 lw_numbers rd_kind rd_begin rd_acts rd_total).bind (fun (br_minute_39, br_rule_39, br_much_39, br_size_39) =>
some (br_minute_39, br_rule_39, br_much_39, br_size_39, wh_base_16, wh_parted_16))))
def fX10_breaches (v1 : Int) (v2 : Int) (br_minute : Nat → Int) (br_rule : Nat → Int) (br_much : Nat → Int) (br_size : Int) (Cd_kind : Nat → Nat → Int) (Cd_begin : Nat → Nat → Int) (Cd_acts : Nat → Int) (dy_from : Nat → Int) (dy_to : Nat → Int) (dy_drive : Nat → Int) (dy_extended : Nat → Int) (dy_endedBy : Nat → Int) (dy_over : Nat → Int) (dy_late : Nat → Int) (dy_size : Int) (lw_numbers : Nat → Int) (pl_minute : Nat → Int) (pl_drive : Nat → Int) (pl_enough : Nat → Int) (pl_endedBy : Nat → Int) (pl_ownPrice : Nat → Int) (pl_marks : Int) (pl_mostTaken : Int) (pl_mostExtended : Int) (pl_least : Nat → Int) (pl_L : Nat) (pl_B : Nat) (rd_kind : Nat → Int) (rd_begin : Nat → Int) (rd_runFrom : Nat → Int) (rd_runTo : Nat → Int) (rd_runDrive : Nat → Int) (rd_acts : Int) (rd_total : Int) (rd_drive : Int) (rd_runs : Int) (wh_base : Int) (wh_parted : Int) : Option (Int × (Nat → Int) × (Nat → Int) × (Nat → Int) × Int × (Nat → Int) × (Nat → Int) × (Nat → Int) × (Nat → Int) × (Nat → Int) × (Nat → Int) × (Nat → Int) × Int × (Nat → Int) × (Nat → Int) × (Nat → Int) × (Nat → Int) × (Nat → Int) × Int × Int × Int × (Nat → Int) × Nat × (Nat → Int) × (Nat → Int) × (Nat → Int) × (Nat → Int) × (Nat → Int) × Int × Int × Int × Int × Int × Int) :=
(fX10_cardOf v1).bind (fun r_2 =>
if zR r_2 then
(if r_2 < 0 then
some ((-1), br_minute, br_rule, br_much, br_size, dy_from, dy_to, dy_drive, dy_extended, dy_endedBy, dy_over, dy_late, dy_size, pl_minute, pl_drive, pl_enough, pl_endedBy, pl_ownPrice, pl_marks, pl_mostTaken, pl_mostExtended, pl_least, pl_L, rd_kind, rd_begin, rd_runFrom, rd_runTo, rd_runDrive, rd_acts, rd_total, rd_drive, rd_runs, wh_base, wh_parted)
else
if r_2 < 4 then
((fX10_findDays v2 (Cd_kind r_2.toNat) (Cd_begin r_2.toNat) (Cd_acts r_2.toNat) dy_from dy_to dy_drive dy_extended dy_endedBy dy_over dy_late dy_size lw_numbers pl_minute pl_drive pl_enough pl_endedBy pl_ownPrice pl_marks pl_mostTaken pl_mostExtended pl_least pl_L pl_B rd_kind rd_begin rd_runFrom rd_runTo rd_runDrive rd_acts rd_total rd_drive rd_runs).bind (fun (dy_from_15, dy_to_15, dy_drive_15, dy_extended_15, dy_endedBy_15, dy_over_15, dy_late_15, dy_size_15, pl_minute_15, pl_drive_15, pl_enough_15, pl_endedBy_15, pl_ownPrice_15, pl_marks_15, pl_mostTaken_15, pl_mostExtended_15, pl_least_15, pl_L_15, rd_kind_15, rd_begin_15, rd_runFrom_15, rd_runTo_15, rd_runDrive_15, rd_acts_15, rd_total_15, rd_drive_15, rd_runs_15) =>
(fX10_findBreaches br_minute br_rule br_much br_size dy_from_15 dy_drive_15 dy_extended_15 dy_over_15 dy_late_15 dy_size_15 lw_numbers rd_kind_15 rd_begin_15 rd_runFrom_15 rd_runTo_15 rd_runDrive_15 rd_acts_15 rd_total_15 rd_drive_15 rd_runs_15 wh_base wh_parted).bind (fun (br_minute_19, br_rule_19, br_much_19, br_size_19, wh_base_19, wh_parted_19) =>
some (br_size_19, br_minute_19, br_rule_19, br_much_19, br_size_19, dy_from_15, dy_to_15, dy_drive_15, dy_extended_15, dy_endedBy_15, dy_over_15, dy_late_15, dy_size_15, pl_minute_15, pl_drive_15, pl_enough_15, pl_endedBy_15, pl_ownPrice_15, pl_marks_15, pl_mostTaken_15, pl_mostExtended_15, pl_least_15, pl_L_15, rd_kind_15, rd_begin_15, rd_runFrom_15, rd_runTo_15, rd_runDrive_15, rd_acts_15, rd_total_15, rd_drive_15, rd_runs_15, wh_base_19, wh_parted_19))))
else none)
else none)
def fX10_breach (v1 : Int) (v2 : Int) (v3 : Int) (v4 : Int) (br_minute : Nat → Int) (br_rule : Nat → Int) (br_much : Nat → Int) (br_size : Int) (Cd_kind : Nat → Nat → Int) (Cd_begin : Nat → Nat → Int) (Cd_acts : Nat → Int) (dy_from : Nat → Int) (dy_to : Nat → Int) (dy_drive : Nat → Int) (dy_extended : Nat → Int) (dy_endedBy : Nat → Int) (dy_over : Nat → Int) (dy_late : Nat → Int) (dy_size : Int) (lw_numbers : Nat → Int) (pl_minute : Nat → Int) (pl_drive : Nat → Int) (pl_enough : Nat → Int) (pl_endedBy : Nat → Int) (pl_ownPrice : Nat → Int) (pl_marks : Int) (pl_mostTaken : Int) (pl_mostExtended : Int) (pl_least : Nat → Int) (pl_L : Nat) (pl_B : Nat) (rd_kind : Nat → Int) (rd_begin : Nat → Int) (rd_runFrom : Nat → Int) (rd_runTo : Nat → Int) (rd_runDrive : Nat → Int) (rd_acts : Int) (rd_total : Int) (rd_drive : Int) (rd_runs : Int) (wh_base : Int) (wh_parted : Int) : Option (Int × (Nat → Int) × (Nat → Int) × (Nat → Int) × Int × (Nat → Int) × (Nat → Int) × (Nat → Int) × (Nat → Int) × (Nat → Int) × (Nat → Int) × (Nat → Int) × Int × (Nat → Int) × (Nat → Int) × (Nat → Int) × (Nat → Int) × (Nat → Int) × Int × Int × Int × (Nat → Int) × Nat × (Nat → Int) × (Nat → Int) × (Nat → Int) × (Nat → Int) × (Nat → Int) × Int × Int × Int × Int × Int × Int) :=
(fX10_cardOf v1).bind (fun r_2 =>
if zR r_2 then
(if r_2 < 0 then
some ((-1), br_minute, br_rule, br_much, br_size, dy_from, dy_to, dy_drive, dy_extended, dy_endedBy, dy_over, dy_late, dy_size, pl_minute, pl_drive, pl_enough, pl_endedBy, pl_ownPrice, pl_marks, pl_mostTaken, pl_mostExtended, pl_least, pl_L, rd_kind, rd_begin, rd_runFrom, rd_runTo, rd_runDrive, rd_acts, rd_total, rd_drive, rd_runs, wh_base, wh_parted)
else
if r_2 < 4 then
((fX10_findDays v2 (Cd_kind r_2.toNat) (Cd_begin r_2.toNat) (Cd_acts r_2.toNat) dy_from dy_to dy_drive dy_extended dy_endedBy dy_over dy_late dy_size lw_numbers pl_minute pl_drive pl_enough pl_endedBy pl_ownPrice pl_marks pl_mostTaken pl_mostExtended pl_least pl_L pl_B rd_kind rd_begin rd_runFrom rd_runTo rd_runDrive rd_acts rd_total rd_drive rd_runs).bind (fun (dy_from_18, dy_to_18, dy_drive_18, dy_extended_18, dy_endedBy_18, dy_over_18, dy_late_18, dy_size_18, pl_minute_18, pl_drive_18, pl_enough_18, pl_endedBy_18, pl_ownPrice_18, pl_marks_18, pl_mostTaken_18, pl_mostExtended_18, pl_least_18, pl_L_18, rd_kind_18, rd_begin_18, rd_runFrom_18, rd_runTo_18, rd_runDrive_18, rd_acts_18, rd_total_18, rd_drive_18, rd_runs_18) =>
(fX10_findBreaches br_minute br_rule br_much br_size dy_from_18 dy_drive_18 dy_extended_18 dy_over_18 dy_late_18 dy_size_18 lw_numbers rd_kind_18 rd_begin_18 rd_runFrom_18 rd_runTo_18 rd_runDrive_18 rd_acts_18 rd_total_18 rd_drive_18 rd_runs_18 wh_base wh_parted).bind (fun (br_minute_22, br_rule_22, br_much_22, br_size_22, wh_base_22, wh_parted_22) =>
(fX0_tell v3 v4 br_minute_22 br_rule_22 br_much_22 br_size_22).bind (fun r_32 =>
some (r_32, br_minute_22, br_rule_22, br_much_22, br_size_22, dy_from_18, dy_to_18, dy_drive_18, dy_extended_18, dy_endedBy_18, dy_over_18, dy_late_18, dy_size_18, pl_minute_18, pl_drive_18, pl_enough_18, pl_endedBy_18, pl_ownPrice_18, pl_marks_18, pl_mostTaken_18, pl_mostExtended_18, pl_least_18, pl_L_18, rd_kind_18, rd_begin_18, rd_runFrom_18, rd_runTo_18, rd_runDrive_18, rd_acts_18, rd_total_18, rd_drive_18, rd_runs_18, wh_base_22, wh_parted_22)))))
else none)
else none)
def fX10_weight (v1 : Int) (v2 : Int) (Cd_kind : Nat → Nat → Int) (Cd_begin : Nat → Nat → Int) (Cd_acts : Nat → Int) (dy_from : Nat → Int) (dy_to : Nat → Int) (dy_drive : Nat → Int) (dy_extended : Nat → Int) (dy_endedBy : Nat → Int) (dy_over : Nat → Int) (dy_late : Nat → Int) (dy_size : Int) (lw_numbers : Nat → Int) (pl_minute : Nat → Int) (pl_drive : Nat → Int) (pl_enough : Nat → Int) (pl_endedBy : Nat → Int) (pl_ownPrice : Nat → Int) (pl_marks : Int) (pl_mostTaken : Int) (pl_mostExtended : Int) (pl_least : Nat → Int) (pl_L : Nat) (pl_B : Nat) (rd_kind : Nat → Int) (rd_begin : Nat → Int) (rd_runFrom : Nat → Int) (rd_runTo : Nat → Int) (rd_runDrive : Nat → Int) (rd_acts : Int) (rd_total : Int) (rd_drive : Int) (rd_runs : Int) : Option (Int × (Nat → Int) × (Nat → Int) × (Nat → Int) × (Nat → Int) × (Nat → Int) × (Nat → Int) × (Nat → Int) × Int × (Nat → Int) × (Nat → Int) × (Nat → Int) × (Nat → Int) × (Nat → Int) × Int × Int × Int × (Nat → Int) × Nat × (Nat → Int) × (Nat → Int) × (Nat → Int) × (Nat → Int) × (Nat → Int) × Int × Int × Int × Int) :=
(fX10_cardOf v1).bind (fun r_2 =>
if zR r_2 then
(if r_2 < 0 then
some ((-1), dy_from, dy_to, dy_drive, dy_extended, dy_endedBy, dy_over, dy_late, dy_size, pl_minute, pl_drive, pl_enough, pl_endedBy, pl_ownPrice, pl_marks, pl_mostTaken, pl_mostExtended, pl_least, pl_L, rd_kind, rd_begin, rd_runFrom, rd_runTo, rd_runDrive, rd_acts, rd_total, rd_drive, rd_runs)
else
if r_2 < 4 then
((fX10_findDays v2 (Cd_kind r_2.toNat) (Cd_begin r_2.toNat) (Cd_acts r_2.toNat) dy_from dy_to dy_drive dy_extended dy_endedBy dy_over dy_late dy_size lw_numbers pl_minute pl_drive pl_enough pl_endedBy pl_ownPrice pl_marks pl_mostTaken pl_mostExtended pl_least pl_L pl_B rd_kind rd_begin rd_runFrom rd_runTo rd_runDrive rd_acts rd_total rd_drive rd_runs).bind (fun (dy_from_15, dy_to_15, dy_drive_15, dy_extended_15, dy_endedBy_15, dy_over_15, dy_late_15, dy_size_15, pl_minute_15, pl_drive_15, pl_enough_15, pl_endedBy_15, pl_ownPrice_15, pl_marks_15, pl_mostTaken_15, pl_mostExtended_15, pl_least_15, pl_L_15, rd_kind_15, rd_begin_15, rd_runFrom_15, rd_runTo_15, rd_runDrive_15, rd_acts_15, rd_total_15, rd_drive_15, rd_runs_15) =>
(fX3_overAndLate dy_over_15 dy_late_15 dy_size_15).bind (fun r_22 =>
some (r_22, dy_from_15, dy_to_15, dy_drive_15, dy_extended_15, dy_endedBy_15, dy_over_15, dy_late_15, dy_size_15, pl_minute_15, pl_drive_15, pl_enough_15, pl_endedBy_15, pl_ownPrice_15, pl_marks_15, pl_mostTaken_15, pl_mostExtended_15, pl_least_15, pl_L_15, rd_kind_15, rd_begin_15, rd_runFrom_15, rd_runTo_15, rd_runDrive_15, rd_acts_15, rd_total_15, rd_drive_15, rd_runs_15))))
else none)
else none)
def fX10_day (v1 : Int) (v2 : Int) (v3 : Int) (v4 : Int) (Cd_kind : Nat → Nat → Int) (Cd_begin : Nat → Nat → Int) (Cd_acts : Nat → Int) (dy_from : Nat → Int) (dy_to : Nat → Int) (dy_drive : Nat → Int) (dy_extended : Nat → Int) (dy_endedBy : Nat → Int) (dy_over : Nat → Int) (dy_late : Nat → Int) (dy_size : Int) (lw_numbers : Nat → Int) (pl_minute : Nat → Int) (pl_drive : Nat → Int) (pl_enough : Nat → Int) (pl_endedBy : Nat → Int) (pl_ownPrice : Nat → Int) (pl_marks : Int) (pl_mostTaken : Int) (pl_mostExtended : Int) (pl_least : Nat → Int) (pl_L : Nat) (pl_B : Nat) (rd_kind : Nat → Int) (rd_begin : Nat → Int) (rd_runFrom : Nat → Int) (rd_runTo : Nat → Int) (rd_runDrive : Nat → Int) (rd_acts : Int) (rd_total : Int) (rd_drive : Int) (rd_runs : Int) : Option (Int × (Nat → Int) × (Nat → Int) × (Nat → Int) × (Nat → Int) × (Nat → Int) × (Nat → Int) × (Nat → Int) × Int × (Nat → Int) × (Nat → Int) × (Nat → Int) × (Nat → Int) × (Nat → Int) × Int × Int × Int × (Nat → Int) × Nat × (Nat → Int) × (Nat → Int) × (Nat → Int) × (Nat → Int) × (Nat → Int) × Int × Int × Int × Int) :=
(fX10_cardOf v1).bind (fun r_2 =>
if zR r_2 then
(if r_2 < 0 then
some ((-1), dy_from, dy_to, dy_drive, dy_extended, dy_endedBy, dy_over, dy_late, dy_size, pl_minute, pl_drive, pl_enough, pl_endedBy, pl_ownPrice, pl_marks, pl_mostTaken, pl_mostExtended, pl_least, pl_L, rd_kind, rd_begin, rd_runFrom, rd_runTo, rd_runDrive, rd_acts, rd_total, rd_drive, rd_runs)
else
if r_2 < 4 then
((fX10_findDays v2 (Cd_kind r_2.toNat) (Cd_begin r_2.toNat) (Cd_acts r_2.toNat) dy_from dy_to dy_drive dy_extended dy_endedBy dy_over dy_late dy_size lw_numbers pl_minute pl_drive pl_enough pl_endedBy pl_ownPrice pl_marks pl_mostTaken pl_mostExtended pl_least pl_L pl_B rd_kind rd_begin rd_runFrom rd_runTo rd_runDrive rd_acts rd_total rd_drive rd_runs).bind (fun (dy_from_18, dy_to_18, dy_drive_18, dy_extended_18, dy_endedBy_18, dy_over_18, dy_late_18, dy_size_18, pl_minute_18, pl_drive_18, pl_enough_18, pl_endedBy_18, pl_ownPrice_18, pl_marks_18, pl_mostTaken_18, pl_mostExtended_18, pl_least_18, pl_L_18, rd_kind_18, rd_begin_18, rd_runFrom_18, rd_runTo_18, rd_runDrive_18, rd_acts_18, rd_total_18, rd_drive_18, rd_runs_18) =>
(fX3_tell v3 v4 dy_from_18 dy_to_18 dy_drive_18 dy_extended_18 dy_endedBy_18 dy_size_18).bind (fun r_28 =>
some (r_28, dy_from_18, dy_to_18, dy_drive_18, dy_extended_18, dy_endedBy_18, dy_over_18, dy_late_18, dy_size_18, pl_minute_18, pl_drive_18, pl_enough_18, pl_endedBy_18, pl_ownPrice_18, pl_marks_18, pl_mostTaken_18, pl_mostExtended_18, pl_least_18, pl_L_18, rd_kind_18, rd_begin_18, rd_runFrom_18, rd_runTo_18, rd_runDrive_18, rd_acts_18, rd_total_18, rd_drive_18, rd_runs_18))))
else none)
else none)
def fX10_may (v1 : Int) (v2 : Int) (Cd_kind : Nat → Nat → Int) (Cd_begin : Nat → Nat → Int) (Cd_acts : Nat → Int) (lw_numbers : Nat → Int) (rd_kind : Nat → Int) (rd_begin : Nat → Int) (rd_runFrom : Nat → Int) (rd_runTo : Nat → Int) (rd_runDrive : Nat → Int) (rd_acts : Int) (rd_total : Int) (rd_drive : Int) (rd_runs : Int) (wh_base : Int) (wh_parted : Int) : Option (Int × (Nat → Int) × (Nat → Int) × (Nat → Int) × (Nat → Int) × (Nat → Int) × Int × Int × Int × Int × Int × Int) :=
(fX10_cardOf v1).bind (fun r_2 =>
if zR r_2 then
(if r_2 < 0 then
some ((-1), rd_kind, rd_begin, rd_runFrom, rd_runTo, rd_runDrive, rd_acts, rd_total, rd_drive, rd_runs, wh_base, wh_parted)
else
if r_2 < 4 then
((fX6_read v2 (Cd_kind r_2.toNat) (Cd_begin r_2.toNat) (Cd_acts r_2.toNat) rd_kind rd_begin rd_runFrom rd_runTo rd_runDrive rd_acts rd_total rd_drive rd_runs).bind (fun (rd_kind_18, rd_begin_18, rd_runFrom_18, rd_runTo_18, rd_runDrive_18, rd_acts_18, rd_total_18, rd_drive_18, rd_runs_18) =>
(fX9_leftNow lw_numbers rd_runFrom_18 rd_runTo_18 rd_runDrive_18 rd_drive_18 rd_runs_18 wh_base wh_parted).bind (fun (r_25, wh_base_25, wh_parted_25) =>
some (r_25, rd_kind_18, rd_begin_18, rd_runFrom_18, rd_runTo_18, rd_runDrive_18, rd_acts_18, rd_total_18, rd_drive_18, rd_runs_18, wh_base_25, wh_parted_25))))
else none)
else none)
def fX10_most_23 (rd_kind : Nat → Int) (rd_begin : Nat → Int) (rd_runFrom : Nat → Int) (rd_runTo : Nat → Int) (rd_runDrive : Nat → Int) (rd_acts : Int) (rd_total : Int) (rd_drive : Int) (rd_runs : Int) (wh_base : Int) (wh_parted : Int) : Option (Int × (Nat → Int) × (Nat → Int) × (Nat → Int) × (Nat → Int) × (Nat → Int) × Int × Int × Int × Int × Int × Int) :=
some ((-1), rd_kind, rd_begin, rd_runFrom, rd_runTo, rd_runDrive, rd_acts, rd_total, rd_drive, rd_runs, wh_base, wh_parted)
def fX10_most (v1 : Int) (v2 : Int) (v3 : Int) (Cd_kind : Nat → Nat → Int) (Cd_begin : Nat → Nat → Int) (Cd_acts : Nat → Int) (lw_numbers : Nat → Int) (rd_kind : Nat → Int) (rd_begin : Nat → Int) (rd_runFrom : Nat → Int) (rd_runTo : Nat → Int) (rd_runDrive : Nat → Int) (rd_acts : Int) (rd_total : Int) (rd_drive : Int) (rd_runs : Int) (wh_base : Int) (wh_parted : Int) : Option (Int × (Nat → Int) × (Nat → Int) × (Nat → Int) × (Nat → Int) × (Nat → Int) × Int × Int × Int × Int × Int × Int) :=
(fX10_cardOf v1).bind (fun r_2 =>
if zR r_2 then
(if r_2 < 0 then
fX10_most_23 rd_kind rd_begin rd_runFrom rd_runTo rd_runDrive rd_acts rd_total rd_drive rd_runs wh_base wh_parted
else
if r_2 < 4 then
(if zR v3 then
(if v3 < 0 then
fX10_most_23 rd_kind rd_begin rd_runFrom rd_runTo rd_runDrive rd_acts rd_total rd_drive rd_runs wh_base wh_parted
else
if zR v3 then
(if v3 ≤ 2000 then
(fX6_read v2 (Cd_kind r_2.toNat) (Cd_begin r_2.toNat) (Cd_acts r_2.toNat) rd_kind rd_begin rd_runFrom rd_runTo rd_runDrive rd_acts rd_total rd_drive rd_runs).bind (fun (rd_kind_32, rd_begin_32, rd_runFrom_32, rd_runTo_32, rd_runDrive_32, rd_acts_32, rd_total_32, rd_drive_32, rd_runs_32) =>
(fX9_mostAhead v3 lw_numbers rd_runFrom_32 rd_runTo_32 rd_runDrive_32 rd_total_32 rd_drive_32 rd_runs_32 wh_base wh_parted).bind (fun (r_40, wh_base_40, wh_parted_40) =>
some (r_40, rd_kind_32, rd_begin_32, rd_runFrom_32, rd_runTo_32, rd_runDrive_32, rd_acts_32, rd_total_32, rd_drive_32, rd_runs_32, wh_base_40, wh_parted_40)))
else
fX10_most_23 rd_kind rd_begin rd_runFrom rd_runTo rd_runDrive rd_acts rd_total rd_drive rd_runs wh_base wh_parted)
else none)
else none)
else none)
else none)
def fX10_against (v1 : Int) (v2 : Int) (Cd_kind : Nat → Nat → Int) (Cd_vehicle : Nat → Nat → Int) (Cd_begin : Nat → Nat → Int) (Cd_acts : Nat → Int) (cp_actAt : Nat → Int) (cp_tripAt : Int) (cp_next : Int) (cp_withoutCard : Int) (cp_withMoreCards : Int) (cp_withoutTrip : Int) (Tr_from : Nat → Nat → Int) (Tr_to : Nat → Nat → Int) (Tr_size : Nat → Int) : Option (Int × (Nat → Int) × Int × Int × Int × Int × Int) :=
(fX10_tripsOf v1).bind (fun r_2 =>
if zR r_2 then
(if r_2 < 0 then
some ((-1), cp_actAt, cp_tripAt, cp_next, cp_withoutCard, cp_withMoreCards, cp_withoutTrip)
else
if r_2 < 2 then
((fX2_compare v1 Cd_kind Cd_vehicle Cd_begin Cd_acts cp_actAt cp_tripAt cp_next cp_withoutCard cp_withMoreCards cp_withoutTrip (Tr_from r_2.toNat) (Tr_to r_2.toNat) (Tr_size r_2.toNat)).bind (fun (cp_actAt_22, cp_tripAt_22, cp_next_22, cp_withoutCard_22, cp_withMoreCards_22, cp_withoutTrip_22) =>
if zR v2 then
(if v2 = 0 then
some (cp_withoutCard_22, cp_actAt_22, cp_tripAt_22, cp_next_22, cp_withoutCard_22, cp_withMoreCards_22, cp_withoutTrip_22)
else
if v2 = 1 then
some (cp_withMoreCards_22, cp_actAt_22, cp_tripAt_22, cp_next_22, cp_withoutCard_22, cp_withMoreCards_22, cp_withoutTrip_22)
else
if v2 = 2 then
some (cp_withoutTrip_22, cp_actAt_22, cp_tripAt_22, cp_next_22, cp_withoutCard_22, cp_withMoreCards_22, cp_withoutTrip_22)
else
some ((-1), cp_actAt_22, cp_tripAt_22, cp_next_22, cp_withoutCard_22, cp_withMoreCards_22, cp_withoutTrip_22))
else none))
else none)
else none)
def fX10_look_21  : Option (Int) :=
some (-1)
def fX10_look (v1 : Int) (v2 : Int) (v3 : Int) (Cd_kind : Nat → Nat → Int) (Cd_vehicle : Nat → Nat → Int) (Cd_begin : Nat → Nat → Int) (Cd_acts : Nat → Int) : Option (Int) :=
(fX10_cardOf v1).bind (fun r_2 =>
if zR r_2 then
(if r_2 < 0 then
fX10_look_21
else
if r_2 < 4 then
((fX1_has v2 (Cd_acts r_2.toNat)).bind (fun r_15 =>
if zR r_15 then
(if r_15 ≠ 0 then
if zR v3 then
(if v3 = 0 then
if 0 ≤ v2 ∧ v2 < 60 then
(some ((Cd_kind r_2.toNat) v2.toNat))
else none
else
if v3 = 1 then
if 0 ≤ (v2 + 1) ∧ (v2 + 1) < 61 then
(if 0 ≤ v2 ∧ v2 < 61 then
(some (((Cd_begin r_2.toNat) (v2 + 1).toNat) - ((Cd_begin r_2.toNat) v2.toNat)))
else none)
else none
else
if v3 = 2 then
if 0 ≤ v2 ∧ v2 < 61 then
(some ((Cd_begin r_2.toNat) v2.toNat))
else none
else
if v3 = 3 then
if 0 ≤ v2 ∧ v2 < 60 then
(some ((Cd_vehicle r_2.toNat) v2.toNat))
else none
else
some (-1))
else none
else
fX10_look_21)
else none))
else none)
else none)
def fX10_countOfAll (v1 : Int) (tp_size : Int) (Tr_size : Nat → Int) : Option (Int) :=
if zR v1 then
(if v1 = 0 then
some tp_size
else
if v1 = 1 then
some (Tr_size 0)
else
if v1 = 2 then
some (Tr_size 1)
else
some (-1))
else none
def fX10_count (v1 : Int) (v2 : Int) (Cd_kind : Nat → Nat → Int) (Cd_begin : Nat → Nat → Int) (Cd_acts : Nat → Int) (rd_kind : Nat → Int) (rd_begin : Nat → Int) (rd_runFrom : Nat → Int) (rd_runTo : Nat → Int) (rd_runDrive : Nat → Int) (rd_acts : Int) (rd_total : Int) (rd_drive : Int) (rd_runs : Int) (tp_size : Int) (Tr_size : Nat → Int) : Option (Int × (Nat → Int) × (Nat → Int) × (Nat → Int) × (Nat → Int) × (Nat → Int) × Int × Int × Int × Int) :=
if zR v1 then
(if v1 ≠ (-1) then
(fX10_cardOf v1).bind (fun r_13 =>
if zR r_13 then
(if r_13 < 0 then
some ((-1), rd_kind, rd_begin, rd_runFrom, rd_runTo, rd_runDrive, rd_acts, rd_total, rd_drive, rd_runs)
else
if r_13 < 4 then
((fX6_read 0 (Cd_kind r_13.toNat) (Cd_begin r_13.toNat) (Cd_acts r_13.toNat) rd_kind rd_begin rd_runFrom rd_runTo rd_runDrive rd_acts rd_total rd_drive rd_runs).bind (fun (rd_kind_29, rd_begin_29, rd_runFrom_29, rd_runTo_29, rd_runDrive_29, rd_acts_29, rd_total_29, rd_drive_29, rd_runs_29) =>
if zR v2 then
(if v2 = 0 then
some (rd_acts_29, rd_kind_29, rd_begin_29, rd_runFrom_29, rd_runTo_29, rd_runDrive_29, rd_acts_29, rd_total_29, rd_drive_29, rd_runs_29)
else
if v2 = 1 then
some (rd_total_29, rd_kind_29, rd_begin_29, rd_runFrom_29, rd_runTo_29, rd_runDrive_29, rd_acts_29, rd_total_29, rd_drive_29, rd_runs_29)
else
if v2 = 2 then
some (rd_drive_29, rd_kind_29, rd_begin_29, rd_runFrom_29, rd_runTo_29, rd_runDrive_29, rd_acts_29, rd_total_29, rd_drive_29, rd_runs_29)
else
if v2 = 3 then
some (rd_runs_29, rd_kind_29, rd_begin_29, rd_runFrom_29, rd_runTo_29, rd_runDrive_29, rd_acts_29, rd_total_29, rd_drive_29, rd_runs_29)
else
if v2 = 4 then
(fX6_longestRun rd_runFrom_29 rd_runTo_29 rd_runs_29).bind (fun r_104 =>
some (r_104, rd_kind_29, rd_begin_29, rd_runFrom_29, rd_runTo_29, rd_runDrive_29, rd_acts_29, rd_total_29, rd_drive_29, rd_runs_29))
else
some ((-1), rd_kind_29, rd_begin_29, rd_runFrom_29, rd_runTo_29, rd_runDrive_29, rd_acts_29, rd_total_29, rd_drive_29, rd_runs_29))
else none))
else none)
else none)
else
(fX10_countOfAll v2 tp_size Tr_size).bind (fun r_7 =>
some (r_7, rd_kind, rd_begin, rd_runFrom, rd_runTo, rd_runDrive, rd_acts, rd_total, rd_drive, rd_runs)))
else none
