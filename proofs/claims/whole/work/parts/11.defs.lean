def fX0_isBehind_30  : Option (Int) :=
some 1
def fX0_isBehind_34  : Option (Int) :=
some 0
def fX0_isBehind (v1 : Int) (v2 : Int) (v3 : Int) (br_minute : Nat → Int) (br_rule : Nat → Int) : Option (Int) :=
if 0 ≤ v1 ∧ v1 < 185 then
(if zR (br_minute v1.toNat) ∧ zR v2 then
(if v2 < (br_minute v1.toNat) then
fX0_isBehind_30
else
if 0 ≤ v1 ∧ v1 < 185 then
(if zR (br_minute v1.toNat) ∧ zR v2 then
(if (br_minute v1.toNat) ≠ v2 then
fX0_isBehind_34
else
if 0 ≤ v1 ∧ v1 < 185 then
(if zR (br_rule v1.toNat) ∧ zR v3 then
(if (br_rule v1.toNat) ≤ v3 then
fX0_isBehind_34
else
fX0_isBehind_30)
else none)
else none)
else none)
else none)
else none)
else none
def fX0_insert_89 (v1 : Int) (v2 : Int) (v3 : Int) (v4 : Int) (br_minute : Nat → Int) (br_rule : Nat → Int) (br_much : Nat → Int) (br_size : Int) : Option ((Nat → Int) × (Nat → Int) × (Nat → Int) × Int) :=
if 0 ≤ v4 ∧ v4 < 185 then
(if 0 ≤ v4 ∧ v4 < 185 then
(if 0 ≤ v4 ∧ v4 < 185 then
(some ((zU br_minute v4.toNat v1), (zU br_rule v4.toNat v2), (zU br_much v4.toNat v3), (br_size + 1)))
else none)
else none)
else none
def fX0_insert_17 (v1 : Int) (v2 : Int) (v3 : Int) (br_size : Int) (rec17 : Int × (Nat → Int) × (Nat → Int) × (Nat → Int) → Option ((Nat → Int) × (Nat → Int) × (Nat → Int) × Int)) : Int × (Nat → Int) × (Nat → Int) × (Nat → Int) → Option ((Nat → Int) × (Nat → Int) × (Nat → Int) × Int) := fun (v4, br_minute, br_rule, br_much) =>
if zR v4 then
(if v4 ≤ 0 then
fX0_insert_89 v1 v2 v3 v4 br_minute br_rule br_much br_size
else
(fX0_isBehind (v4 - 1) v1 v2 br_minute br_rule).bind (fun r_29 =>
if zR r_29 then
(if r_29 = 0 then
fX0_insert_89 v1 v2 v3 v4 br_minute br_rule br_much br_size
else
if 0 ≤ (v4 - 1) ∧ (v4 - 1) < 185 then
(if 0 ≤ v4 ∧ v4 < 185 then
(if 0 ≤ (v4 - 1) ∧ (v4 - 1) < 185 then
(if 0 ≤ v4 ∧ v4 < 185 then
(if 0 ≤ (v4 - 1) ∧ (v4 - 1) < 185 then
(if 0 ≤ v4 ∧ v4 < 185 then
(rec17 ((v4 + (-1)), (zU br_minute v4.toNat (br_minute (v4 - 1).toNat)), (zU br_rule v4.toNat (br_rule (v4 - 1).toNat)), (zU br_much v4.toNat (br_much (v4 - 1).toNat))))
else none)
else none)
else none)
else none)
else none)
else none)
else none))
else none
def fX0_insert (v1 : Int) (v2 : Int) (v3 : Int) (br_minute : Nat → Int) (br_rule : Nat → Int) (br_much : Nat → Int) (br_size : Int) : Option ((Nat → Int) × (Nat → Int) × (Nat → Int) × Int) :=
if zR br_size then
(if br_size < 185 then
zlp (fX0_insert_17 v1 v2 v3 br_size) zF (br_size, br_minute, br_rule, br_much)
else
some (br_minute, br_rule, br_much, br_size))
else none
def fX0_tell_12  : Option (Int) :=
some (-1)
def fX0_tell (v1 : Int) (v2 : Int) (br_minute : Nat → Int) (br_rule : Nat → Int) (br_much : Nat → Int) (br_size : Int) : Option (Int) :=
if zR v1 then
(if v1 < 0 then
fX0_tell_12
else
if zR v1 ∧ zR br_size then
(if v1 < br_size then
if zR v2 then
(if v2 = 0 then
if 0 ≤ v1 ∧ v1 < 185 then
(some (br_minute v1.toNat))
else none
else
if v2 = 1 then
if 0 ≤ v1 ∧ v1 < 185 then
(some (br_rule v1.toNat))
else none
else
if v2 = 2 then
if 0 ≤ v1 ∧ v1 < 185 then
(some (br_much v1.toNat))
else none
else
some (-1))
else none
else
fX0_tell_12)
else none)
else none
def fX1_change_21 (s1 : Int) (s2 : Int) (cd_kind : Nat → Int) (cd_vehicle : Nat → Int) : Option ((Nat → Int) × (Nat → Int)) :=
if 0 ≤ s1 ∧ s1 < 60 then
(some (cd_kind, (zU cd_vehicle s1.toNat s2)))
else none
def fX1_change (v1 : Int) (v2 : Int) (v3 : Int) (cd_kind : Nat → Int) (cd_vehicle : Nat → Int) : Option ((Nat → Int) × (Nat → Int)) :=
if 0 ≤ v1 ∧ v1 < 60 then
(if zR v2 then
(if v2 ≠ 0 then
fX1_change_21 v1 (-1) (zU cd_kind v1.toNat v2) cd_vehicle
else
fX1_change_21 v1 v3 (zU cd_kind v1.toNat v2) cd_vehicle)
else none)
else none
def fX1_append (v1 : Int) (v2 : Int) (v3 : Int) (cd_kind : Nat → Int) (cd_vehicle : Nat → Int) (cd_begin : Nat → Int) (cd_acts : Int) : Option (Int × (Nat → Int) × (Nat → Int) × (Nat → Int) × Int) :=
if 0 ≤ cd_acts ∧ cd_acts < 61 then
(if 0 ≤ (cd_acts + 1) ∧ (cd_acts + 1) < 61 then
((fX1_change cd_acts v1 v3 cd_kind cd_vehicle).bind (fun (cd_kind_39, cd_vehicle_39) =>
some (cd_acts, cd_kind_39, cd_vehicle_39, (zU cd_begin (cd_acts + 1).toNat ((cd_begin cd_acts.toNat) + v2)), (cd_acts + 1))))
else none)
else none
def fX1_drives_23  : Option (Int) :=
some 0
def fX1_drives (v1 : Int) (v2 : Int) (cd_kind : Nat → Int) (cd_vehicle : Nat → Int) : Option (Int) :=
if 0 ≤ v1 ∧ v1 < 60 then
(if zR (cd_kind v1.toNat) then
(if (cd_kind v1.toNat) ≠ 0 then
fX1_drives_23
else
if 0 ≤ v1 ∧ v1 < 60 then
(if zR (cd_vehicle v1.toNat) ∧ zR v2 then
(if (cd_vehicle v1.toNat) ≠ v2 then
fX1_drives_23
else
some 1)
else none)
else none)
else none)
else none
def fX1_has_16  : Option (Int) :=
some 0
def fX1_has (v1 : Int) (cd_acts : Int) : Option (Int) :=
if zR v1 then
(if v1 < 0 then
fX1_has_16
else
if zR v1 ∧ zR cd_acts then
(if cd_acts ≤ v1 then
fX1_has_16
else
some 1)
else none)
else none
def fX1_hasRoom_35  : Option (Int) :=
some 0
def fX1_hasRoom (v1 : Int) (cd_begin : Nat → Int) (cd_acts : Int) : Option (Int) :=
if zR v1 then
(if v1 < 1 then
fX1_hasRoom_35
else
if zR cd_acts then
(if 60 ≤ cd_acts then
fX1_hasRoom_35
else
if 0 ≤ cd_acts ∧ cd_acts < 61 then
(if zR v1 ∧ zR (20160 - (cd_begin cd_acts.toNat)) then
(if (20160 - (cd_begin cd_acts.toNat)) < v1 then
fX1_hasRoom_35
else
some 1)
else none)
else none)
else none)
else none
def fX1_isRest_32  : Option (Int) :=
some 1
def fX1_isRest_36  : Option (Int) :=
some 0
def fX1_isRest (v1 : Int) (v2 : Int) (cd_kind : Nat → Int) (cd_acts : Int) : Option (Int) :=
(fX1_has v1 cd_acts).bind (fun r_2 =>
if zR r_2 then
(if r_2 = 0 then
fX1_isRest_36
else
if 0 ≤ v1 ∧ v1 < 60 then
(if zR (cd_kind v1.toNat) then
(if (cd_kind v1.toNat) = 2 then
fX1_isRest_32
else
if 0 ≤ v1 ∧ v1 < 60 then
(if zR (cd_kind v1.toNat) then
(if (cd_kind v1.toNat) ≠ 4 then
fX1_isRest_36
else
if zR v2 then
(if v2 ≠ 0 then
fX1_isRest_36
else
fX1_isRest_32)
else none)
else none)
else none)
else none)
else none)
else none)
def fX1_kindRead_68  : Option (Int) :=
some 1
def fX1_kindRead (v1 : Int) (v2 : Int) (cd_kind : Nat → Int) (cd_acts : Int) : Option (Int) :=
if 0 ≤ v1 ∧ v1 < 60 then
(if zR (cd_kind v1.toNat) then
(if (cd_kind v1.toNat) = 3 then
(fX1_isRest (v1 - 1) v2 cd_kind cd_acts).bind (fun r_47 =>
if zR r_47 then
(if r_47 = 0 then
fX1_kindRead_68
else
(fX1_isRest (v1 + 1) v2 cd_kind cd_acts).bind (fun r_58 =>
if zR r_58 then
(if r_58 = 0 then
fX1_kindRead_68
else
some 2)
else none))
else none)
else
if (cd_kind v1.toNat) = 4 then
if zR v2 then
(if v2 = 0 then
some 2
else
some 0)
else none
else
if 0 ≤ v1 ∧ v1 < 60 then
(some (cd_kind v1.toNat))
else none)
else none)
else none
def fX2_addMinutes_33 (v1 : Int) (v2 : Int) (v3 : Int) (cp_withoutCard : Int) (cp_withMoreCards : Int) (cp_withoutTrip : Int) : Option (Int × Int × Int) :=
if zR v2 then
(if v2 < 1 then
some (cp_withoutCard, cp_withMoreCards, cp_withoutTrip)
else
if zR v3 then
(if v3 ≠ 0 then
some (cp_withoutCard, cp_withMoreCards, cp_withoutTrip)
else
some (cp_withoutCard, cp_withMoreCards, (cp_withoutTrip + v1)))
else none)
else none
def fX2_addMinutes_18 (v1 : Int) (v2 : Int) (v3 : Int) (cp_withoutCard : Int) (cp_withMoreCards : Int) (cp_withoutTrip : Int) : Option (Int × Int × Int) :=
if zR v2 then
(if v2 < 2 then
fX2_addMinutes_33 v1 v2 v3 cp_withoutCard cp_withMoreCards cp_withoutTrip
else
fX2_addMinutes_33 v1 v2 v3 cp_withoutCard (cp_withMoreCards + v1) cp_withoutTrip)
else none
def fX2_addMinutes (v1 : Int) (v2 : Int) (v3 : Int) (cp_withoutCard : Int) (cp_withMoreCards : Int) (cp_withoutTrip : Int) : Option (Int × Int × Int) :=
if zR v3 then
(if v3 = 0 then
fX2_addMinutes_18 v1 v2 v3 cp_withoutCard cp_withMoreCards cp_withoutTrip
else
if zR v2 then
(if v2 ≠ 0 then
fX2_addMinutes_18 v1 v2 v3 cp_withoutCard cp_withMoreCards cp_withoutTrip
else
fX2_addMinutes_18 v1 v2 v3 (cp_withoutCard + v1) cp_withMoreCards cp_withoutTrip)
else none)
else none
def fX2_isDriven_40 (v2 : Int) (v4 : Int) (cd_kind : Nat → Int) (cd_vehicle : Nat → Int) (cd_begin : Nat → Int) (cd_acts : Int) (cp_actAt : Nat → Int) (cp_next : Int) : Option (Int × (Nat → Int) × Int) :=
if 0 ≤ v2 ∧ v2 < 4 then
(if zR (cp_actAt v2.toNat) ∧ zR cd_acts then
(if (cp_actAt v2.toNat) < cd_acts then
if 0 ≤ ((cp_actAt v2.toNat) + 1) ∧ ((cp_actAt v2.toNat) + 1) < 61 then
(if zR cp_next ∧ zR (cd_begin ((cp_actAt v2.toNat) + 1).toNat) then
((fX1_drives (cp_actAt v2.toNat) v4 cd_kind cd_vehicle).bind (fun r_84 =>
if r_84 = 0 ∨ r_84 = 1 then
(some (r_84, cp_actAt, (min cp_next (cd_begin ((cp_actAt v2.toNat) + 1).toNat))))
else none))
else none)
else none
else
some (0, cp_actAt, cp_next))
else none)
else none
def fX2_isDriven (v2 : Int) (v3 : Int) (v4 : Int) (cd_kind : Nat → Int) (cd_vehicle : Nat → Int) (cd_begin : Nat → Int) (cd_acts : Int) (cp_actAt : Nat → Int) (cp_next : Int) : Option (Int × (Nat → Int) × Int) :=
if 0 ≤ v2 ∧ v2 < 4 then
(if zR (cp_actAt v2.toNat) ∧ zR cd_acts then
(if cd_acts ≤ (cp_actAt v2.toNat) then
fX2_isDriven_40 v2 v4 cd_kind cd_vehicle cd_begin cd_acts cp_actAt cp_next
else
if 0 ≤ v2 ∧ v2 < 4 then
(if 0 ≤ ((cp_actAt v2.toNat) + 1) ∧ ((cp_actAt v2.toNat) + 1) < 61 then
(if zR (cd_begin ((cp_actAt v2.toNat) + 1).toNat) ∧ zR v3 then
(if v3 < (cd_begin ((cp_actAt v2.toNat) + 1).toNat) then
fX2_isDriven_40 v2 v4 cd_kind cd_vehicle cd_begin cd_acts cp_actAt cp_next
else
if 0 ≤ v2 ∧ v2 < 4 then
(if 0 ≤ v2 ∧ v2 < 4 then
(fX2_isDriven_40 v2 v4 cd_kind cd_vehicle cd_begin cd_acts (zU cp_actAt v2.toNat ((cp_actAt v2.toNat) + 1)) cp_next)
else none)
else none)
else none)
else none)
else none)
else none)
else none
def fX2_isOnTrip_96 (v3 : Int) (s1 : Int) (s2 : Int) (cp_tripAt : Int) : Option (Int × Int × Int) :=
if zR s1 ∧ zR s2 then
(if v3 = 0 ∨ v3 = 1 then
(some (v3, cp_tripAt, (min s1 s2)))
else none)
else none
def fX2_isOnTrip_65 (s0 : Int) (cp_tripAt : Int) (cp_next : Int) (tr_from : Nat → Int) (tr_to : Nat → Int) : Option (Int × Int × Int) :=
if zR s0 then
(if s0 = 0 then
if 0 ≤ cp_tripAt ∧ cp_tripAt < 20 then
(fX2_isOnTrip_96 s0 cp_next (tr_from cp_tripAt.toNat) cp_tripAt)
else none
else
if 0 ≤ cp_tripAt ∧ cp_tripAt < 20 then
(fX2_isOnTrip_96 s0 cp_next (tr_to cp_tripAt.toNat) cp_tripAt)
else none)
else none
def fX2_isOnTrip_34 (v2 : Int) (cp_tripAt : Int) (cp_next : Int) (tr_from : Nat → Int) (tr_to : Nat → Int) (tr_size : Int) : Option (Int × Int × Int) :=
if zR cp_tripAt ∧ zR tr_size then
(if cp_tripAt < tr_size then
if 0 ≤ cp_tripAt ∧ cp_tripAt < 20 then
(if zR (tr_from cp_tripAt.toNat) ∧ zR v2 then
(if v2 < (tr_from cp_tripAt.toNat) then
fX2_isOnTrip_65 0 cp_tripAt cp_next tr_from tr_to
else
fX2_isOnTrip_65 1 cp_tripAt cp_next tr_from tr_to)
else none)
else none
else
some (0, cp_tripAt, cp_next))
else none
def fX2_isOnTrip (v2 : Int) (cp_tripAt : Int) (cp_next : Int) (tr_from : Nat → Int) (tr_to : Nat → Int) (tr_size : Int) : Option (Int × Int × Int) :=
if zR cp_tripAt ∧ zR tr_size then
(if tr_size ≤ cp_tripAt then
fX2_isOnTrip_34 v2 cp_tripAt cp_next tr_from tr_to tr_size
else
if 0 ≤ cp_tripAt ∧ cp_tripAt < 20 then
(if zR (tr_to cp_tripAt.toNat) ∧ zR v2 then
(if v2 < (tr_to cp_tripAt.toNat) then
fX2_isOnTrip_34 v2 cp_tripAt cp_next tr_from tr_to tr_size
else
fX2_isOnTrip_34 v2 (cp_tripAt + 1) cp_next tr_from tr_to tr_size)
else none)
else none)
else none
def fX2_startAgain_2  (rec2 : Int × (Nat → Int) → Option ((Nat → Int) × Int × Int × Int × Int)) : Int × (Nat → Int) → Option ((Nat → Int) × Int × Int × Int × Int) := fun (v1, cp_actAt) =>
if zR v1 then
(if 4 ≤ v1 then
some (cp_actAt, 0, 0, 0, 0)
else
if 0 ≤ v1 ∧ v1 < 4 then
(rec2 ((v1 + 1), (zU cp_actAt v1.toNat 0)))
else none)
else none
def fX2_startAgain  (cp_actAt : Nat → Int) (cp_tripAt : Int) (cp_withoutCard : Int) (cp_withMoreCards : Int) (cp_withoutTrip : Int) : Option ((Nat → Int) × Int × Int × Int × Int) :=
zlp (fX2_startAgain_2) zF (0, cp_actAt)
def fX3_addSpan (v1 : Int) (v2 : Int) (v3 : Int) (dy_from : Nat → Int) (dy_to : Nat → Int) (dy_endedBy : Nat → Int) (dy_size : Int) : Option ((Nat → Int) × (Nat → Int) × (Nat → Int) × Int) :=
if zR dy_size then
(if 61 ≤ dy_size then
some (dy_from, dy_to, dy_endedBy, dy_size)
else
if 0 ≤ dy_size ∧ dy_size < 61 then
(if 0 ≤ dy_size ∧ dy_size < 61 then
(if 0 ≤ dy_size ∧ dy_size < 61 then
(some ((zU dy_from dy_size.toNat v1), (zU dy_to dy_size.toNat v2), (zU dy_endedBy dy_size.toNat v3), (dy_size + 1)))
else none)
else none)
else none)
else none
def fX3_overAndLate_4 (dy_over : Nat → Int) (dy_late : Nat → Int) (dy_size : Int) (rec4 : Int × Int → Option (Int)) : Int × Int → Option (Int) := fun (v1, v2) =>
if zR v2 ∧ zR dy_size then
(if dy_size ≤ v2 then
some v1
else
if 0 ≤ v2 ∧ v2 < 61 then
(if 0 ≤ v2 ∧ v2 < 61 then
(rec4 ((v1 + ((dy_over v2.toNat) + (dy_late v2.toNat))), (v2 + 1)))
else none)
else none)
else none
def fX3_overAndLate  (dy_over : Nat → Int) (dy_late : Nat → Int) (dy_size : Int) : Option (Int) :=
zlp (fX3_overAndLate_4 dy_over dy_late dy_size) zF (0, 0)
def fX3_setLast (v1 : Int) (v2 : Int) (v3 : Int) (v4 : Int) (dy_drive : Nat → Int) (dy_extended : Nat → Int) (dy_over : Nat → Int) (dy_late : Nat → Int) (dy_size : Int) : Option ((Nat → Int) × (Nat → Int) × (Nat → Int) × (Nat → Int)) :=
if zR dy_size then
(if dy_size ≤ 0 then
some (dy_drive, dy_extended, dy_over, dy_late)
else
if 0 ≤ (dy_size - 1) ∧ (dy_size - 1) < 61 then
(if 0 ≤ (dy_size - 1) ∧ (dy_size - 1) < 61 then
(if 0 ≤ (dy_size - 1) ∧ (dy_size - 1) < 61 then
(if 0 ≤ (dy_size - 1) ∧ (dy_size - 1) < 61 then
(some ((zU dy_drive (dy_size - 1).toNat v1), (zU dy_extended (dy_size - 1).toNat v2), (zU dy_over (dy_size - 1).toNat v3), (zU dy_late (dy_size - 1).toNat v4)))
else none)
else none)
else none)
else none)
else none
def fX3_tell_12  : Option (Int) :=
some (-1)
def fX3_tell (v1 : Int) (v2 : Int) (dy_from : Nat → Int) (dy_to : Nat → Int) (dy_drive : Nat → Int) (dy_extended : Nat → Int) (dy_endedBy : Nat → Int) (dy_size : Int) : Option (Int) :=
if zR v1 then
(if v1 < 0 then
fX3_tell_12
else
if zR v1 ∧ zR dy_size then
(if v1 < dy_size then
if zR v2 then
(if v2 = 0 then
if 0 ≤ v1 ∧ v1 < 61 then
(some (dy_from v1.toNat))
else none
else
if v2 = 1 then
if 0 ≤ v1 ∧ v1 < 61 then
(some (dy_to v1.toNat))
else none
else
if v2 = 2 then
if 0 ≤ v1 ∧ v1 < 61 then
(some (dy_drive v1.toNat))
else none
else
if v2 = 3 then
if 0 ≤ v1 ∧ v1 < 61 then
(some (dy_extended v1.toNat))
else none
else
if v2 = 4 then
if 0 ≤ v1 ∧ v1 < 61 then
(some (dy_endedBy v1.toNat))
else none
else
some (-1))
else none
else
fX3_tell_12)
else none)
else none
def fX6_driveMinute_67 (rec4 : Int × Int → Option (Int)) (v2 : Int) (v3 : Int) : Option (Int) :=
rec4 (v2, (v3 + 1))
def fX6_driveMinute_4 (rd_kind : Nat → Int) (rd_begin : Nat → Int) (rd_acts : Int) (rd_total : Int) (rec4 : Int × Int → Option (Int)) : Int × Int → Option (Int) := fun (v2, v3) =>
if zR v3 ∧ zR rd_acts then
(if rd_acts ≤ v3 then
some rd_total
else
if 0 ≤ v3 ∧ v3 < 60 then
(if zR (rd_kind v3.toNat) then
(if (rd_kind v3.toNat) ≠ 0 then
fX6_driveMinute_67 rec4 v2 v3
else
if 0 ≤ (v3 + 1) ∧ (v3 + 1) < 61 then
(if 0 ≤ v3 ∧ v3 < 61 then
(if zR v2 ∧ zR ((rd_begin (v3 + 1).toNat) - (rd_begin v3.toNat)) then
(if ((rd_begin (v3 + 1).toNat) - (rd_begin v3.toNat)) ≤ v2 then
if 0 ≤ (v3 + 1) ∧ (v3 + 1) < 61 then
(if 0 ≤ v3 ∧ v3 < 61 then
(fX6_driveMinute_67 rec4 (v2 - ((rd_begin (v3 + 1).toNat) - (rd_begin v3.toNat))) v3)
else none)
else none
else
if 0 ≤ v3 ∧ v3 < 61 then
(some ((rd_begin v3.toNat) + v2))
else none)
else none)
else none)
else none)
else none)
else none)
else none
def fX6_driveMinute (v1 : Int) (rd_kind : Nat → Int) (rd_begin : Nat → Int) (rd_acts : Int) (rd_total : Int) : Option (Int) :=
zlp (fX6_driveMinute_4 rd_kind rd_begin rd_acts rd_total) zF (v1, 0)
def fX3_tellOverAndLate_102 (rec6 : Int × Int × (Nat → Int) × (Nat → Int) × (Nat → Int) × Int → Option ((Nat → Int) × (Nat → Int) × (Nat → Int) × Int)) (v4 : Int) (v5 : Int) (br_minute : Nat → Int) (br_rule : Nat → Int) (br_much : Nat → Int) (br_size : Int) (dy_drive : Nat → Int) : Option ((Nat → Int) × (Nat → Int) × (Nat → Int) × Int) :=
if 0 ≤ v5 ∧ v5 < 61 then
(rec6 ((v4 + (dy_drive v5.toNat)), (v5 + 1), br_minute, br_rule, br_much, br_size))
else none
def fX3_tellOverAndLate_69 (rec6 : Int × Int × (Nat → Int) × (Nat → Int) × (Nat → Int) × Int → Option ((Nat → Int) × (Nat → Int) × (Nat → Int) × Int)) (v4 : Int) (v5 : Int) (br_minute : Nat → Int) (br_rule : Nat → Int) (br_much : Nat → Int) (br_size : Int) (dy_from : Nat → Int) (dy_drive : Nat → Int) (dy_late : Nat → Int) : Option ((Nat → Int) × (Nat → Int) × (Nat → Int) × Int) :=
if 0 ≤ v5 ∧ v5 < 61 then
(if zR (dy_late v5.toNat) then
(if (dy_late v5.toNat) ≤ 0 then
fX3_tellOverAndLate_102 rec6 v4 v5 br_minute br_rule br_much br_size dy_drive
else
if 0 ≤ v5 ∧ v5 < 61 then
(if 0 ≤ v5 ∧ v5 < 61 then
((fX0_insert ((dy_from v5.toNat) + 1440) 3 (dy_late v5.toNat) br_minute br_rule br_much br_size).bind (fun (br_minute_99, br_rule_99, br_much_99, br_size_99) =>
fX3_tellOverAndLate_102 rec6 v4 v5 br_minute_99 br_rule_99 br_much_99 br_size_99 dy_drive))
else none)
else none)
else none)
else none
def fX3_tellOverAndLate_45 (rec6 : Int × Int × (Nat → Int) × (Nat → Int) × (Nat → Int) × Int → Option ((Nat → Int) × (Nat → Int) × (Nat → Int) × Int)) (v4 : Int) (v5 : Int) (s1 : Int) (br_minute : Nat → Int) (br_rule : Nat → Int) (br_much : Nat → Int) (br_size : Int) (dy_from : Nat → Int) (dy_drive : Nat → Int) (dy_over : Nat → Int) (dy_late : Nat → Int) (lw_numbers : Nat → Int) (rd_kind : Nat → Int) (rd_begin : Nat → Int) (rd_acts : Int) (rd_total : Int) : Option ((Nat → Int) × (Nat → Int) × (Nat → Int) × Int) :=
if 0 ≤ s1 ∧ s1 < 11 then
((fX6_driveMinute (v4 + (lw_numbers s1.toNat)) rd_kind rd_begin rd_acts rd_total).bind (fun r_55 =>
if 0 ≤ v5 ∧ v5 < 61 then
((fX0_insert r_55 2 (dy_over v5.toNat) br_minute br_rule br_much br_size).bind (fun (br_minute_66, br_rule_66, br_much_66, br_size_66) =>
fX3_tellOverAndLate_69 rec6 v4 v5 br_minute_66 br_rule_66 br_much_66 br_size_66 dy_from dy_drive dy_late))
else none))
else none
def fX3_tellOverAndLate_6 (dy_from : Nat → Int) (dy_drive : Nat → Int) (dy_extended : Nat → Int) (dy_over : Nat → Int) (dy_late : Nat → Int) (dy_size : Int) (lw_numbers : Nat → Int) (rd_kind : Nat → Int) (rd_begin : Nat → Int) (rd_acts : Int) (rd_total : Int) (rec6 : Int × Int × (Nat → Int) × (Nat → Int) × (Nat → Int) × Int → Option ((Nat → Int) × (Nat → Int) × (Nat → Int) × Int)) : Int × Int × (Nat → Int) × (Nat → Int) × (Nat → Int) × Int → Option ((Nat → Int) × (Nat → Int) × (Nat → Int) × Int) := fun (v4, v5, br_minute, br_rule, br_much, br_size) =>
if zR v5 ∧ zR dy_size then
(if dy_size ≤ v5 then
some (br_minute, br_rule, br_much, br_size)
else
if 0 ≤ v5 ∧ v5 < 61 then
(if zR (dy_over v5.toNat) then
(if (dy_over v5.toNat) ≤ 0 then
fX3_tellOverAndLate_69 rec6 v4 v5 br_minute br_rule br_much br_size dy_from dy_drive dy_late
else
if 0 ≤ v5 ∧ v5 < 61 then
(if zR (dy_extended v5.toNat) then
(if (dy_extended v5.toNat) ≠ 1 then
fX3_tellOverAndLate_45 rec6 v4 v5 4 br_minute br_rule br_much br_size dy_from dy_drive dy_over dy_late lw_numbers rd_kind rd_begin rd_acts rd_total
else
fX3_tellOverAndLate_45 rec6 v4 v5 5 br_minute br_rule br_much br_size dy_from dy_drive dy_over dy_late lw_numbers rd_kind rd_begin rd_acts rd_total)
else none)
else none)
else none)
else none)
else none
def fX3_tellOverAndLate  (br_minute : Nat → Int) (br_rule : Nat → Int) (br_much : Nat → Int) (br_size : Int) (dy_from : Nat → Int) (dy_drive : Nat → Int) (dy_extended : Nat → Int) (dy_over : Nat → Int) (dy_late : Nat → Int) (dy_size : Int) (lw_numbers : Nat → Int) (rd_kind : Nat → Int) (rd_begin : Nat → Int) (rd_acts : Int) (rd_total : Int) : Option ((Nat → Int) × (Nat → Int) × (Nat → Int) × Int) :=
zlp (fX3_tellOverAndLate_6 dy_from dy_drive dy_extended dy_over dy_late dy_size lw_numbers rd_kind rd_begin rd_acts rd_total) zF (0, 0, br_minute, br_rule, br_much, br_size)
def fX4_canBe_12 (v1 : Int) : Option (Int) :=
if zR v1 then
(if 99 < v1 then
some 0
else
some 1)
else none
def fX4_canBe (v0 : Int) (v1 : Int)  : Option (Int) :=
if zR v0 then
(if v0 = 6 then
fX4_canBe_12 v1
else
if zR v0 then
(if v0 ≠ 9 then
if zR v1 then
(if v1 < 1 then
some 0
else
some 1)
else none
else
fX4_canBe_12 v1)
else none)
else none
def fX4_endOfDigits_29 (v3 : Int) : Option (Int) :=
some v3
def fX4_endOfDigits_2 (v2 : Int) (p0 : Nat → Int) (rec2 : Int → Option (Int)) : Int → Option (Int) := fun v3 =>
if zR v3 ∧ zR v2 then
(if v2 ≤ v3 then
fX4_endOfDigits_29 v3
else
if 0 ≤ v3 ∧ v3 < 80 then
(if zR (p0 v3.toNat) then
(if (p0 v3.toNat) < 48 then
fX4_endOfDigits_29 v3
else
if 0 ≤ v3 ∧ v3 < 80 then
(if zR (p0 v3.toNat) then
(if 57 < (p0 v3.toNat) then
fX4_endOfDigits_29 v3
else
rec2 (v3 + 1))
else none)
else none)
else none)
else none)
else none
def fX4_endOfDigits (v1 : Int) (v2 : Int) (p0 : Nat → Int) : Option (Int) :=
zlp (fX4_endOfDigits_2 v2 p0) zF v1
def fX4_numberOf_5 (v2 : Int) (p0 : Nat → Int) (rec5 : Int × Int → Option (Int)) : Int × Int → Option (Int) := fun (v3, v4) =>
if zR v4 ∧ zR v2 then
(if v2 ≤ v4 then
some v3
else
if 0 ≤ v4 ∧ v4 < 80 then
(rec5 ((((v3 * 10) + (p0 v4.toNat)) - 48), (v4 + 1)))
else none)
else none
def fX4_numberOf (v1 : Int) (v2 : Int) (p0 : Nat → Int) : Option (Int) :=
zlp (fX4_numberOf_5 v2 p0) zF (0, v1)
def fX5_addMark (v1 : Int) (v2 : Int) (v3 : Int) (v4 : Int) (v5 : Int) (pl_minute : Nat → Int) (pl_drive : Nat → Int) (pl_enough : Nat → Int) (pl_endedBy : Nat → Int) (pl_ownPrice : Nat → Int) (pl_marks : Int) : Option ((Nat → Int) × (Nat → Int) × (Nat → Int) × (Nat → Int) × (Nat → Int) × Int) :=
if zR pl_marks then
(if 62 ≤ pl_marks then
some (pl_minute, pl_drive, pl_enough, pl_endedBy, pl_ownPrice, pl_marks)
else
if 0 ≤ pl_marks ∧ pl_marks < 62 then
(if 0 ≤ pl_marks ∧ pl_marks < 62 then
(if 0 ≤ pl_marks ∧ pl_marks < 62 then
(if 0 ≤ pl_marks ∧ pl_marks < 62 then
(if (0 ≤ pl_marks ∧ pl_marks < 62) ∧ zR pl_marks then
(some ((zU pl_minute pl_marks.toNat v1), (zU pl_drive pl_marks.toNat v2), (zU pl_enough pl_marks.toNat v3), (zU pl_endedBy pl_marks.toNat v4), (zU pl_ownPrice pl_marks.toNat v5), (pl_marks + 1)))
else none)
else none)
else none)
else none)
else none)
else none
def fX5_addRest (v1 : Int) (v2 : Int) (v3 : Int) (v4 : Int) (pl_minute : Nat → Int) (pl_drive : Nat → Int) (pl_enough : Nat → Int) (pl_endedBy : Nat → Int) (pl_ownPrice : Nat → Int) (pl_marks : Int) (rd_runFrom : Nat → Int) (rd_runTo : Nat → Int) (rd_runDrive : Nat → Int) : Option ((Nat → Int) × (Nat → Int) × (Nat → Int) × (Nat → Int) × (Nat → Int) × Int) :=
if 0 ≤ v1 ∧ v1 < 60 then
(if 0 ≤ v1 ∧ v1 < 60 then
(if 0 ≤ v1 ∧ v1 < 60 then
((fX5_addMark (rd_runTo v1.toNat) (rd_runDrive v1.toNat) ((rd_runFrom v1.toNat) + v2) v3 v4 pl_minute pl_drive pl_enough pl_endedBy pl_ownPrice pl_marks).bind (fun (pl_minute_33, pl_drive_33, pl_enough_33, pl_endedBy_33, pl_ownPrice_33, pl_marks_33) =>
some (pl_minute_33, pl_drive_33, pl_enough_33, pl_endedBy_33, pl_ownPrice_33, pl_marks_33)))
else none)
else none)
else none
def fX5_lastEnd_30 (v2 : Int) (pl_marks : Int) : Option (Int) :=
if zR v2 ∧ zR (pl_marks - 1) then
(some (min v2 (pl_marks - 1)))
else none
def fX5_lastEnd_4 (pl_endedBy : Nat → Int) (pl_marks : Int) (rec4 : Int → Option (Int)) : Int → Option (Int) := fun v2 =>
if zR v2 ∧ zR (pl_marks - 1) then
(if (pl_marks - 1) ≤ v2 then
fX5_lastEnd_30 v2 pl_marks
else
if 0 ≤ v2 ∧ v2 < 62 then
(if zR (pl_endedBy v2.toNat) then
(if (pl_endedBy v2.toNat) ≠ 2 then
fX5_lastEnd_30 v2 pl_marks
else
rec4 (v2 + 1))
else none)
else none)
else none
def fX5_lastEnd (v1 : Int) (pl_endedBy : Nat → Int) (pl_marks : Int) : Option (Int) :=
zlp (fX5_lastEnd_4 pl_endedBy pl_marks) zF (v1 + 1)
def fX5_placeOf (v1 : Int) (v2 : Int) (v3 : Int) (pl_mostTaken : Int) (pl_mostExtended : Int) : Option (Int) :=
some ((((v1 * (pl_mostTaken + 1)) + v2) * (pl_mostExtended + 1)) + v3)
def fX5_leastFrom_8  : Option (Int) :=
some 1152921504606846976
def fX5_leastFrom (v1 : Int) (v2 : Int) (v3 : Int) (pl_mostTaken : Int) (pl_mostExtended : Int) (pl_least : Nat → Int) (pl_L : Nat) : Option (Int) :=
if zR v2 then
(if v2 < 0 then
fX5_leastFrom_8
else
if zR v3 then
(if 0 ≤ v3 then
(fX5_placeOf v1 v2 v3 pl_mostTaken pl_mostExtended).bind (fun r_22 =>
if (0 ≤ r_22 ∧ r_22 < (pl_L : Int)) ∧ zR r_22 then
(some (pl_least r_22.toNat))
else none)
else
fX5_leastFrom_8)
else none)
else none
def fX5_takenLeft_72 (v5 : Int) : Option (Int) :=
some v5
def fX5_takenLeft_52 (v2 : Int) (v4 : Int) (v5 : Int) (pl_minute : Nat → Int) (pl_mostTaken : Int) : Option (Int) :=
if zR v5 then
(if v5 < 0 then
fX5_takenLeft_72 v5
else
if 0 ≤ v2 ∧ v2 < 62 then
(if zR (pl_minute v2.toNat) then
(if zR v4 ∧ zR (Int.tdiv (pl_minute v2.toNat) 10080) then
(if v4 ≠ (Int.tdiv (pl_minute v2.toNat) 10080) then
some pl_mostTaken
else
fX5_takenLeft_72 v5)
else none)
else none)
else none)
else none
def fX5_takenLeft_37 (v2 : Int) (v4 : Int) (s0 : Int) (pl_minute : Nat → Int) (pl_endedBy : Nat → Int) (pl_mostTaken : Int) : Option (Int) :=
if 0 ≤ v2 ∧ v2 < 62 then
(if zR (pl_endedBy v2.toNat) then
(if (pl_endedBy v2.toNat) ≠ 2 then
fX5_takenLeft_52 v2 v4 s0 pl_minute pl_mostTaken
else
fX5_takenLeft_52 v2 v4 (s0 + (-1)) pl_minute pl_mostTaken)
else none)
else none
def fX5_takenLeft (v1 : Int) (v2 : Int) (v3 : Int) (pl_minute : Nat → Int) (pl_endedBy : Nat → Int) (pl_mostTaken : Int) : Option (Int) :=
if 0 ≤ v2 ∧ v2 < 62 then
(if zR ((pl_minute v2.toNat) - 1) then
(if 0 ≤ v1 ∧ v1 < 62 then
(if zR (pl_minute v1.toNat) then
(if zR (Int.tdiv ((pl_minute v2.toNat) - 1) 10080) ∧ zR (Int.tdiv (pl_minute v1.toNat) 10080) then
(if (Int.tdiv ((pl_minute v2.toNat) - 1) 10080) ≠ (Int.tdiv (pl_minute v1.toNat) 10080) then
fX5_takenLeft_37 v2 (Int.tdiv ((pl_minute v2.toNat) - 1) 10080) pl_mostTaken pl_minute pl_endedBy pl_mostTaken
else
fX5_takenLeft_37 v2 (Int.tdiv ((pl_minute v2.toNat) - 1) 10080) v3 pl_minute pl_endedBy pl_mostTaken)
else none)
else none)
else none)
else none)
else none
def fX5_extendedLeft_27 (v3 : Int) : Option (Int) :=
some v3
def fX5_extendedLeft (v1 : Int) (v2 : Int) (v3 : Int) (pl_minute : Nat → Int) (pl_mostExtended : Int) : Option (Int) :=
if zR v3 then
(if v3 < 0 then
fX5_extendedLeft_27 v3
else
if 0 ≤ v1 ∧ v1 < 62 then
(if zR (pl_minute v1.toNat) then
(if 0 ≤ v2 ∧ v2 < 62 then
(if zR (pl_minute v2.toNat) then
(if zR (Int.tdiv (pl_minute v1.toNat) 10080) ∧ zR (Int.tdiv (pl_minute v2.toNat) 10080) then
(if (Int.tdiv (pl_minute v1.toNat) 10080) ≠ (Int.tdiv (pl_minute v2.toNat) 10080) then
some pl_mostExtended
else
fX5_extendedLeft_27 v3)
else none)
else none)
else none)
else none)
else none)
else none
def fX5_overOf_31 (s0 : Int) (s1 : Int) (s3 : Int) (lw_numbers : Nat → Int) : Option (Int) :=
if 0 ≤ s3 ∧ s3 < 11 then
(if zR s0 ∧ zR (s1 - (lw_numbers s3.toNat)) then
(some (max s0 (s1 - (lw_numbers s3.toNat))))
else none)
else none
def fX5_overOf (v1 : Int) (v2 : Int) (v3 : Int) (lw_numbers : Nat → Int) (pl_drive : Nat → Int) : Option (Int) :=
if 0 ≤ v2 ∧ v2 < 62 then
(if 0 ≤ v1 ∧ v1 < 62 then
(if zR v3 then
(if v3 ≠ 1 then
fX5_overOf_31 0 ((pl_drive v2.toNat) - (pl_drive v1.toNat)) 4 lw_numbers
else
fX5_overOf_31 0 ((pl_drive v2.toNat) - (pl_drive v1.toNat)) 5 lw_numbers)
else none)
else none)
else none
def fX5_lateOf (v1 : Int) (v2 : Int) (pl_minute : Nat → Int) (pl_enough : Nat → Int) : Option (Int) :=
if 0 ≤ v2 ∧ v2 < 62 then
(if 0 ≤ v1 ∧ v1 < 62 then
(if zR 0 ∧ zR (((pl_enough v2.toNat) - (pl_minute v1.toNat)) - 1440) then
(some (max 0 (((pl_enough v2.toNat) - (pl_minute v1.toNat)) - 1440)))
else none)
else none)
else none
def fX5_priceOf (v1 : Int) (v2 : Int) (v3 : Int) (lw_numbers : Nat → Int) (pl_minute : Nat → Int) (pl_drive : Nat → Int) (pl_enough : Nat → Int) (pl_ownPrice : Nat → Int) : Option (Int) :=
(fX5_overOf v1 v2 v3 lw_numbers pl_drive).bind (fun r_4 =>
(fX5_lateOf v1 v2 pl_minute pl_enough).bind (fun r_10 =>
if zR (r_4 + r_10) then
(if zR v3 then
(if (0 ≤ v2 ∧ v2 < 62) ∧ zR v2 then
(some ((((r_4 + r_10) * 4194304) + (v3 * 4096)) + (pl_ownPrice v2.toNat)))
else none)
else none)
else none))
def fX5_choiceAt_41 (rec21 : Int → Option (Int)) (v1 : Int) (v3 : Int) (v5 : Int) (v7 : Int) (v8 : Int) (lw_numbers : Nat → Int) (pl_minute : Nat → Int) (pl_drive : Nat → Int) (pl_enough : Nat → Int) (pl_ownPrice : Nat → Int) (pl_mostTaken : Int) (pl_mostExtended : Int) (pl_least : Nat → Int) (pl_L : Nat) (rec41 : Int → Option (Int)) : Int → Option (Int) := fun v9 =>
if zR v9 then
(if v9 < 0 then
rec21 (v7 + 1)
else
(fX5_extendedLeft v1 v7 (v3 - v9) pl_minute pl_mostExtended).bind (fun r_54 =>
(fX5_priceOf v1 v7 v9 lw_numbers pl_minute pl_drive pl_enough pl_ownPrice).bind (fun r_65 =>
(fX5_leastFrom v7 v8 r_54 pl_mostTaken pl_mostExtended pl_least pl_L).bind (fun r_75 =>
if zRJ (r_65 + r_75) ∧ zRJ v5 then
(if zR (zcmp (r_65 + r_75) v5) then
(if (zcmp (r_65 + r_75) v5) ≠ 0 then
rec41 (v9 + (-1))
else
some ((2 * v7) + v9))
else none)
else none))))
else none
def fX5_choiceAt_21 (v1 : Int) (v2 : Int) (v3 : Int) (v4 : Int) (v5 : Int) (lw_numbers : Nat → Int) (pl_minute : Nat → Int) (pl_drive : Nat → Int) (pl_enough : Nat → Int) (pl_endedBy : Nat → Int) (pl_ownPrice : Nat → Int) (pl_mostTaken : Int) (pl_mostExtended : Int) (pl_least : Nat → Int) (pl_L : Nat) (rec21 : Int → Option (Int)) : Int → Option (Int) := fun v7 =>
if zR v7 ∧ zR v4 then
(if v4 < v7 then
some (2 * v4)
else
(fX5_takenLeft v1 v7 v2 pl_minute pl_endedBy pl_mostTaken).bind (fun r_33 =>
zlp (fX5_choiceAt_41 rec21 v1 v3 v5 v7 r_33 lw_numbers pl_minute pl_drive pl_enough pl_ownPrice pl_mostTaken pl_mostExtended pl_least pl_L) zF 1))
else none
def fX5_choiceAt (v1 : Int) (v2 : Int) (v3 : Int) (lw_numbers : Nat → Int) (pl_minute : Nat → Int) (pl_drive : Nat → Int) (pl_enough : Nat → Int) (pl_endedBy : Nat → Int) (pl_ownPrice : Nat → Int) (pl_marks : Int) (pl_mostTaken : Int) (pl_mostExtended : Int) (pl_least : Nat → Int) (pl_L : Nat) : Option (Int) :=
(fX5_lastEnd v1 pl_endedBy pl_marks).bind (fun r_2 =>
(fX5_leastFrom v1 v2 v3 pl_mostTaken pl_mostExtended pl_least pl_L).bind (fun r_11 =>
zlp (fX5_choiceAt_21 v1 v2 v3 r_2 r_11 lw_numbers pl_minute pl_drive pl_enough pl_endedBy pl_ownPrice pl_mostTaken pl_mostExtended pl_least pl_L) zF (v1 + 1)))
def fX5_offer_34 (rec12 : Int × (Nat → Int) → Option ((Nat → Int))) (v1 : Int) (v2 : Int) (v3 : Int) (v4 : Int) (v6 : Int) (v7 : Int) (pl_minute : Nat → Int) (pl_mostTaken : Int) (pl_mostExtended : Int) (pl_L : Nat) (rec34 : Int × (Nat → Int) → Option ((Nat → Int))) : Int × (Nat → Int) → Option ((Nat → Int)) := fun (v8, pl_least) =>
if zR v8 ∧ zR pl_mostExtended then
(if pl_mostExtended < v8 then
rec12 ((v6 + 1), pl_least)
else
(fX5_placeOf v1 v6 v8 pl_mostTaken pl_mostExtended).bind (fun r_49 =>
(fX5_extendedLeft v1 v2 (v8 - v3) pl_minute pl_mostExtended).bind (fun r_61 =>
if (0 ≤ r_49 ∧ r_49 < (pl_L : Int)) ∧ zR r_49 then
((fX5_leastFrom v2 v7 r_61 pl_mostTaken pl_mostExtended pl_least pl_L).bind (fun r_87 =>
if zRJ (pl_least r_49.toNat) ∧ zRJ (v4 + r_87) then
(if (0 ≤ r_49 ∧ r_49 < (pl_L : Int)) ∧ zR r_49 then
(rec34 ((v8 + 1), (zU pl_least r_49.toNat (min (pl_least r_49.toNat) (v4 + r_87)))))
else none)
else none))
else none)))
else none
def fX5_offer_12 (v1 : Int) (v2 : Int) (v3 : Int) (v4 : Int) (pl_minute : Nat → Int) (pl_endedBy : Nat → Int) (pl_mostTaken : Int) (pl_mostExtended : Int) (pl_L : Nat) (rec12 : Int × (Nat → Int) → Option ((Nat → Int))) : Int × (Nat → Int) → Option ((Nat → Int)) := fun (v6, pl_least) =>
if zR v6 ∧ zR pl_mostTaken then
(if pl_mostTaken < v6 then
some pl_least
else
(fX5_takenLeft v1 v2 v6 pl_minute pl_endedBy pl_mostTaken).bind (fun r_26 =>
zlp (fX5_offer_34 rec12 v1 v2 v3 v4 v6 r_26 pl_minute pl_mostTaken pl_mostExtended pl_L) zF (0, pl_least)))
else none
def fX5_offer (v1 : Int) (v2 : Int) (v3 : Int) (lw_numbers : Nat → Int) (pl_minute : Nat → Int) (pl_drive : Nat → Int) (pl_enough : Nat → Int) (pl_endedBy : Nat → Int) (pl_ownPrice : Nat → Int) (pl_mostTaken : Int) (pl_mostExtended : Int) (pl_least : Nat → Int) (pl_L : Nat) : Option ((Nat → Int)) :=
(fX5_priceOf v1 v2 v3 lw_numbers pl_minute pl_drive pl_enough pl_ownPrice).bind (fun r_4 =>
zlp (fX5_offer_12 v1 v2 v3 r_4 pl_minute pl_endedBy pl_mostTaken pl_mostExtended pl_L) zF (0, pl_least))
def fX5_findLeast_88 (v1 : Int) (v4 : Int) (lw_numbers : Nat → Int) (pl_minute : Nat → Int) (pl_drive : Nat → Int) (pl_enough : Nat → Int) (pl_endedBy : Nat → Int) (pl_ownPrice : Nat → Int) (pl_mostTaken : Int) (pl_mostExtended : Int) (pl_L : Nat) (rec88 : Int × (Nat → Int) → Option ((Nat → Int))) : Int × (Nat → Int) → Option ((Nat → Int)) := fun (v5, pl_least) =>
if zR v5 ∧ zR v4 then
(if v4 < v5 then
some pl_least
else
(fX5_offer v1 v5 0 lw_numbers pl_minute pl_drive pl_enough pl_endedBy pl_ownPrice pl_mostTaken pl_mostExtended pl_least pl_L).bind (fun pl_least_100 =>
(fX5_offer v1 v5 1 lw_numbers pl_minute pl_drive pl_enough pl_endedBy pl_ownPrice pl_mostTaken pl_mostExtended pl_least_100 pl_L).bind (fun pl_least_108 =>
rec88 ((v5 + 1), pl_least_108))))
else none
def fX5_findLeast_64 (rec41 : Int × (Nat → Int) → Option ((Nat → Int))) (v4 : Int) (s1 : Int) (s2 : Int) (pl_least : Nat → Int) (pl_L : Nat) : Option ((Nat → Int)) :=
if (0 ≤ s1 ∧ s1 < (pl_L : Int)) ∧ zR s1 then
(rec41 ((v4 + 1), (zU pl_least s1.toNat s2)))
else none
def fX5_findLeast_41 (v1 : Int) (v2 : Int) (v3 : Int) (lw_numbers : Nat → Int) (pl_minute : Nat → Int) (pl_drive : Nat → Int) (pl_enough : Nat → Int) (pl_endedBy : Nat → Int) (pl_ownPrice : Nat → Int) (pl_marks : Int) (pl_mostTaken : Int) (pl_mostExtended : Int) (pl_L : Nat) (rec41 : Int × (Nat → Int) → Option ((Nat → Int))) : Int × (Nat → Int) → Option ((Nat → Int)) := fun (v4, pl_least) =>
if zR v4 ∧ zR v3 then
(if v3 ≤ v4 then
if zR v2 then
(if v2 = 0 then
(fX5_lastEnd v1 pl_endedBy pl_marks).bind (fun r_78 =>
zlp (fX5_findLeast_88 v1 r_78 lw_numbers pl_minute pl_drive pl_enough pl_endedBy pl_ownPrice pl_mostTaken pl_mostExtended pl_L) zF ((v1 + 1), pl_least))
else
some pl_least)
else none
else
if zR v2 then
(if v2 = 0 then
fX5_findLeast_64 rec41 v4 v4 1152921504606846976 pl_least pl_L
else
fX5_findLeast_64 rec41 v4 v4 0 pl_least pl_L)
else none)
else none
def fX5_findLeast_21 (v1 : Int) (s0 : Int) (lw_numbers : Nat → Int) (pl_minute : Nat → Int) (pl_drive : Nat → Int) (pl_enough : Nat → Int) (pl_endedBy : Nat → Int) (pl_ownPrice : Nat → Int) (pl_marks : Int) (pl_mostTaken : Int) (pl_mostExtended : Int) (pl_least : Nat → Int) (pl_L : Nat) : Option ((Nat → Int)) :=
(fX5_placeOf (v1 + 1) 0 0 pl_mostTaken pl_mostExtended).bind (fun r_28 =>
(fX5_placeOf v1 0 0 pl_mostTaken pl_mostExtended).bind (fun r_36 =>
zlp (fX5_findLeast_41 v1 s0 r_28 lw_numbers pl_minute pl_drive pl_enough pl_endedBy pl_ownPrice pl_marks pl_mostTaken pl_mostExtended pl_L) zF (r_36, pl_least)))
def fX5_findLeast (v1 : Int) (lw_numbers : Nat → Int) (pl_minute : Nat → Int) (pl_drive : Nat → Int) (pl_enough : Nat → Int) (pl_endedBy : Nat → Int) (pl_ownPrice : Nat → Int) (pl_marks : Int) (pl_mostTaken : Int) (pl_mostExtended : Int) (pl_least : Nat → Int) (pl_L : Nat) (rd_total : Int) : Option ((Nat → Int)) :=
if 0 ≤ v1 ∧ v1 < 62 then
(if zR (pl_minute v1.toNat) ∧ zR rd_total then
(if (pl_minute v1.toNat) < rd_total then
fX5_findLeast_21 v1 0 lw_numbers pl_minute pl_drive pl_enough pl_endedBy pl_ownPrice pl_marks pl_mostTaken pl_mostExtended pl_least pl_L
else
fX5_findLeast_21 v1 1 lw_numbers pl_minute pl_drive pl_enough pl_endedBy pl_ownPrice pl_marks pl_mostTaken pl_mostExtended pl_least pl_L)
else none)
else none
def fX6_runLength (v1 : Int) (rd_runFrom : Nat → Int) (rd_runTo : Nat → Int) : Option (Int) :=
if 0 ≤ v1 ∧ v1 < 60 then
(if 0 ≤ v1 ∧ v1 < 60 then
(some ((rd_runTo v1.toNat) - (rd_runFrom v1.toNat)))
else none)
else none
def fX5_findMarks_120 (rec18 : Int × Int × (Nat → Int) × (Nat → Int) × (Nat → Int) × (Nat → Int) × (Nat → Int) × Int → Option ((Nat → Int) × (Nat → Int) × (Nat → Int) × (Nat → Int) × (Nat → Int) × Int × Int × Int)) (v1 : Int) (v2 : Int) (pl_minute : Nat → Int) (pl_drive : Nat → Int) (pl_enough : Nat → Int) (pl_endedBy : Nat → Int) (pl_ownPrice : Nat → Int) (pl_marks : Int) : Option ((Nat → Int) × (Nat → Int) × (Nat → Int) × (Nat → Int) × (Nat → Int) × Int × Int × Int) :=
rec18 (v1, (v2 + 1), pl_minute, pl_drive, pl_enough, pl_endedBy, pl_ownPrice, pl_marks)
def fX5_findMarks_18 (lw_numbers : Nat → Int) (rd_runFrom : Nat → Int) (rd_runTo : Nat → Int) (rd_runDrive : Nat → Int) (rd_total : Int) (rd_drive : Int) (rd_runs : Int) (rec18 : Int × Int × (Nat → Int) × (Nat → Int) × (Nat → Int) × (Nat → Int) × (Nat → Int) × Int → Option ((Nat → Int) × (Nat → Int) × (Nat → Int) × (Nat → Int) × (Nat → Int) × Int × Int × Int)) : Int × Int × (Nat → Int) × (Nat → Int) × (Nat → Int) × (Nat → Int) × (Nat → Int) × Int → Option ((Nat → Int) × (Nat → Int) × (Nat → Int) × (Nat → Int) × (Nat → Int) × Int × Int × Int) := fun (v1, v2, pl_minute, pl_drive, pl_enough, pl_endedBy, pl_ownPrice, pl_marks) =>
if zR v2 ∧ zR rd_runs then
(if rd_runs ≤ v2 then
(fX5_addMark rd_total rd_drive rd_total 0 0 pl_minute pl_drive pl_enough pl_endedBy pl_ownPrice pl_marks).bind (fun (pl_minute_150, pl_drive_150, pl_enough_150, pl_endedBy_150, pl_ownPrice_150, pl_marks_150) =>
if zR (lw_numbers 9) ∧ zR v1 then
(if zR (lw_numbers 6) ∧ zR pl_marks_150 then
(some (pl_minute_150, pl_drive_150, pl_enough_150, pl_endedBy_150, pl_ownPrice_150, pl_marks_150, (min (lw_numbers 9) v1), (min (lw_numbers 6) pl_marks_150)))
else none)
else none)
else
(fX6_runLength v2 rd_runFrom rd_runTo).bind (fun r_34 =>
if zR r_34 ∧ zR (lw_numbers 7) then
(if r_34 < (lw_numbers 7) then
if zR r_34 ∧ zR (lw_numbers 8) then
(if r_34 < (lw_numbers 8) then
fX5_findMarks_120 rec18 v1 v2 pl_minute pl_drive pl_enough pl_endedBy pl_ownPrice pl_marks
else
if zR v1 then
(if 12 ≤ v1 then
fX5_findMarks_120 rec18 v1 v2 pl_minute pl_drive pl_enough pl_endedBy pl_ownPrice pl_marks
else
(fX5_addRest v2 (lw_numbers 8) 2 (262144 - (zlshr 2048 v1)) pl_minute pl_drive pl_enough pl_endedBy pl_ownPrice pl_marks rd_runFrom rd_runTo rd_runDrive).bind (fun (pl_minute_114, pl_drive_114, pl_enough_114, pl_endedBy_114, pl_ownPrice_114, pl_marks_114) =>
fX5_findMarks_120 rec18 (v1 + 1) v2 pl_minute_114 pl_drive_114 pl_enough_114 pl_endedBy_114 pl_ownPrice_114 pl_marks_114))
else none)
else none
else
(fX5_addRest v2 (lw_numbers 7) 1 0 pl_minute pl_drive pl_enough pl_endedBy pl_ownPrice pl_marks rd_runFrom rd_runTo rd_runDrive).bind (fun (pl_minute_66, pl_drive_66, pl_enough_66, pl_endedBy_66, pl_ownPrice_66, pl_marks_66) =>
fX5_findMarks_120 rec18 v1 v2 pl_minute_66 pl_drive_66 pl_enough_66 pl_endedBy_66 pl_ownPrice_66 pl_marks_66))
else none))
else none
def fX5_findMarks  (lw_numbers : Nat → Int) (pl_minute : Nat → Int) (pl_drive : Nat → Int) (pl_enough : Nat → Int) (pl_endedBy : Nat → Int) (pl_ownPrice : Nat → Int) (pl_marks : Int) (pl_mostTaken : Int) (pl_mostExtended : Int) (rd_runFrom : Nat → Int) (rd_runTo : Nat → Int) (rd_runDrive : Nat → Int) (rd_total : Int) (rd_drive : Int) (rd_runs : Int) : Option ((Nat → Int) × (Nat → Int) × (Nat → Int) × (Nat → Int) × (Nat → Int) × Int × Int × Int) :=
(fX5_addMark 0 0 0 0 0 pl_minute pl_drive pl_enough pl_endedBy pl_ownPrice 0).bind (fun (pl_minute_13, pl_drive_13, pl_enough_13, pl_endedBy_13, pl_ownPrice_13, pl_marks_13) =>
zlp (fX5_findMarks_18 lw_numbers rd_runFrom rd_runTo rd_runDrive rd_total rd_drive rd_runs) zF (0, 0, pl_minute_13, pl_drive_13, pl_enough_13, pl_endedBy_13, pl_ownPrice_13, pl_marks_13))
def fX5_tellDays_23 (lw_numbers : Nat → Int) (pl_minute : Nat → Int) (pl_drive : Nat → Int) (pl_enough : Nat → Int) (pl_endedBy : Nat → Int) (pl_ownPrice : Nat → Int) (pl_marks : Int) (pl_mostTaken : Int) (pl_mostExtended : Int) (pl_least : Nat → Int) (pl_L : Nat) (rd_total : Int) (rec23 : Int × Int × Int × Int × (Nat → Int) × (Nat → Int) × (Nat → Int) × (Nat → Int) × (Nat → Int) × (Nat → Int) × (Nat → Int) × Int → Option ((Nat → Int) × (Nat → Int) × (Nat → Int) × (Nat → Int) × (Nat → Int) × (Nat → Int) × (Nat → Int) × Int)) : Int × Int × Int × Int × (Nat → Int) × (Nat → Int) × (Nat → Int) × (Nat → Int) × (Nat → Int) × (Nat → Int) × (Nat → Int) × Int → Option ((Nat → Int) × (Nat → Int) × (Nat → Int) × (Nat → Int) × (Nat → Int) × (Nat → Int) × (Nat → Int) × Int) := fun (v1, v2, v3, v4, dy_from, dy_to, dy_drive, dy_extended, dy_endedBy, dy_over, dy_late, dy_size) =>
if zR v4 ∧ zR pl_marks then
(if pl_marks ≤ v4 then
some (dy_from, dy_to, dy_drive, dy_extended, dy_endedBy, dy_over, dy_late, dy_size)
else
if 0 ≤ v1 ∧ v1 < 62 then
(if zR (pl_minute v1.toNat) ∧ zR rd_total then
(if rd_total ≤ (pl_minute v1.toNat) then
some (dy_from, dy_to, dy_drive, dy_extended, dy_endedBy, dy_over, dy_late, dy_size)
else
(fX5_choiceAt v1 v2 v3 lw_numbers pl_minute pl_drive pl_enough pl_endedBy pl_ownPrice pl_marks pl_mostTaken pl_mostExtended pl_least pl_L).bind (fun r_52 =>
if zR r_52 then
(if zR r_52 then
(if 0 ≤ v1 ∧ v1 < 62 then
(if 0 ≤ (Int.tdiv r_52 2) ∧ (Int.tdiv r_52 2) < 62 then
(if 0 ≤ (Int.tdiv r_52 2) ∧ (Int.tdiv r_52 2) < 62 then
((fX3_addSpan (pl_minute v1.toNat) (pl_minute (Int.tdiv r_52 2).toNat) (pl_endedBy (Int.tdiv r_52 2).toNat) dy_from dy_to dy_endedBy dy_size).bind (fun (dy_from_93, dy_to_93, dy_endedBy_93, dy_size_93) =>
if 0 ≤ (Int.tdiv r_52 2) ∧ (Int.tdiv r_52 2) < 62 then
(if 0 ≤ v1 ∧ v1 < 62 then
((fX5_overOf v1 (Int.tdiv r_52 2) (r_52 - Int.tdiv r_52 2 * 2) lw_numbers pl_drive).bind (fun r_122 =>
(fX5_lateOf v1 (Int.tdiv r_52 2) pl_minute pl_enough).bind (fun r_129 =>
(fX3_setLast ((pl_drive (Int.tdiv r_52 2).toNat) - (pl_drive v1.toNat)) (r_52 - Int.tdiv r_52 2 * 2) r_122 r_129 dy_drive dy_extended dy_over dy_late dy_size_93).bind (fun (dy_drive_132, dy_extended_132, dy_over_132, dy_late_132) =>
(fX5_takenLeft v1 (Int.tdiv r_52 2) v2 pl_minute pl_endedBy pl_mostTaken).bind (fun r_140 =>
(fX5_extendedLeft v1 (Int.tdiv r_52 2) (v3 - (r_52 - Int.tdiv r_52 2 * 2)) pl_minute pl_mostExtended).bind (fun r_152 =>
rec23 ((Int.tdiv r_52 2), r_140, r_152, (v4 + 1), dy_from_93, dy_to_93, dy_drive_132, dy_extended_132, dy_endedBy_93, dy_over_132, dy_late_132, dy_size_93)))))))
else none)
else none))
else none)
else none)
else none)
else none)
else none))
else none)
else none)
else none
def fX5_tellDays  (dy_from : Nat → Int) (dy_to : Nat → Int) (dy_drive : Nat → Int) (dy_extended : Nat → Int) (dy_endedBy : Nat → Int) (dy_over : Nat → Int) (dy_late : Nat → Int) (dy_size : Int) (lw_numbers : Nat → Int) (pl_minute : Nat → Int) (pl_drive : Nat → Int) (pl_enough : Nat → Int) (pl_endedBy : Nat → Int) (pl_ownPrice : Nat → Int) (pl_marks : Int) (pl_mostTaken : Int) (pl_mostExtended : Int) (pl_least : Nat → Int) (pl_L : Nat) (rd_total : Int) : Option ((Nat → Int) × (Nat → Int) × (Nat → Int) × (Nat → Int) × (Nat → Int) × (Nat → Int) × (Nat → Int) × Int) :=
zlp (fX5_tellDays_23 lw_numbers pl_minute pl_drive pl_enough pl_endedBy pl_ownPrice pl_marks pl_mostTaken pl_mostExtended pl_least pl_L rd_total) zF (0, pl_mostTaken, pl_mostExtended, 0, dy_from, dy_to, dy_drive, dy_extended, dy_endedBy, dy_over, dy_late, 0)
def fX6_addRest_54 (v1 : Int) (rd_begin : Nat → Int) (rd_runFrom : Nat → Int) (rd_runTo : Nat → Int) (rd_runDrive : Nat → Int) (rd_runs : Int) : Option ((Nat → Int) × (Nat → Int) × (Nat → Int) × Int) :=
if 0 ≤ (v1 + 1) ∧ (v1 + 1) < 61 then
(if 0 ≤ (rd_runs - 1) ∧ (rd_runs - 1) < 60 then
(some (rd_runFrom, (zU rd_runTo (rd_runs - 1).toNat (rd_begin (v1 + 1).toNat)), rd_runDrive, rd_runs))
else none)
else none
def fX6_addRest_16 (v1 : Int) (rd_begin : Nat → Int) (rd_runFrom : Nat → Int) (rd_runTo : Nat → Int) (rd_runDrive : Nat → Int) (rd_drive : Int) (rd_runs : Int) : Option ((Nat → Int) × (Nat → Int) × (Nat → Int) × Int) :=
if 0 ≤ v1 ∧ v1 < 61 then
(if 0 ≤ rd_runs ∧ rd_runs < 60 then
(if 0 ≤ rd_runs ∧ rd_runs < 60 then
(fX6_addRest_54 v1 rd_begin (zU rd_runFrom rd_runs.toNat (rd_begin v1.toNat)) rd_runTo (zU rd_runDrive rd_runs.toNat rd_drive) (rd_runs + 1))
else none)
else none)
else none
def fX6_addRest (v1 : Int) (rd_kind : Nat → Int) (rd_begin : Nat → Int) (rd_runFrom : Nat → Int) (rd_runTo : Nat → Int) (rd_runDrive : Nat → Int) (rd_drive : Int) (rd_runs : Int) : Option ((Nat → Int) × (Nat → Int) × (Nat → Int) × Int) :=
if zR v1 then
(if v1 = 0 then
fX6_addRest_16 v1 rd_begin rd_runFrom rd_runTo rd_runDrive rd_drive rd_runs
else
if 0 ≤ (v1 - 1) ∧ (v1 - 1) < 60 then
(if zR (rd_kind (v1 - 1).toNat) then
(if (rd_kind (v1 - 1).toNat) = 2 then
fX6_addRest_54 v1 rd_begin rd_runFrom rd_runTo rd_runDrive rd_runs
else
fX6_addRest_16 v1 rd_begin rd_runFrom rd_runTo rd_runDrive rd_drive rd_runs)
else none)
else none)
else none
def fX6_driveAhead_59 (v2 : Int) : Option (Int) :=
some v2
def fX6_driveAhead_53 (rec4 : Int × Int → Option (Int)) (v2 : Int) (v3 : Int) : Option (Int) :=
rec4 (v2, (v3 + 1))
def fX6_driveAhead_4 (v1 : Int) (rd_kind : Nat → Int) (rd_begin : Nat → Int) (rd_acts : Int) (rec4 : Int × Int → Option (Int)) : Int × Int → Option (Int) := fun (v2, v3) =>
if zR v3 ∧ zR rd_acts then
(if rd_acts ≤ v3 then
fX6_driveAhead_59 v2
else
if 0 ≤ v3 ∧ v3 < 61 then
(if zR (rd_begin v3.toNat) ∧ zR v1 then
(if v1 ≤ (rd_begin v3.toNat) then
fX6_driveAhead_59 v2
else
if 0 ≤ v3 ∧ v3 < 60 then
(if zR (rd_kind v3.toNat) then
(if (rd_kind v3.toNat) ≠ 0 then
fX6_driveAhead_53 rec4 v2 v3
else
if 0 ≤ (v3 + 1) ∧ (v3 + 1) < 61 then
(if zR v1 ∧ zR (rd_begin (v3 + 1).toNat) then
(if 0 ≤ v3 ∧ v3 < 61 then
(fX6_driveAhead_53 rec4 (v2 + ((min v1 (rd_begin (v3 + 1).toNat)) - (rd_begin v3.toNat))) v3)
else none)
else none)
else none)
else none)
else none)
else none)
else none)
else none
def fX6_driveAhead (v1 : Int) (rd_kind : Nat → Int) (rd_begin : Nat → Int) (rd_acts : Int) : Option (Int) :=
zlp (fX6_driveAhead_4 v1 rd_kind rd_begin rd_acts) zF (0, 0)
def fX6_endsWithRun_29  : Option (Int) :=
some 0
def fX6_endsWithRun  (rd_runTo : Nat → Int) (rd_total : Int) (rd_runs : Int) : Option (Int) :=
if zR rd_runs then
(if rd_runs ≤ 0 then
fX6_endsWithRun_29
else
if 0 ≤ (rd_runs - 1) ∧ (rd_runs - 1) < 60 then
(if zR (rd_runTo (rd_runs - 1).toNat) ∧ zR rd_total then
(if (rd_runTo (rd_runs - 1).toNat) ≠ rd_total then
fX6_endsWithRun_29
else
some 1)
else none)
else none)
else none
def fX6_longestRun_4 (rd_runFrom : Nat → Int) (rd_runTo : Nat → Int) (rd_runs : Int) (rec4 : Int × Int → Option (Int)) : Int × Int → Option (Int) := fun (v1, v2) =>
if zR v2 ∧ zR rd_runs then
(if rd_runs ≤ v2 then
some v1
else
(fX6_runLength v2 rd_runFrom rd_runTo).bind (fun r_15 =>
if zR v1 ∧ zR r_15 then
(rec4 ((max v1 r_15), (v2 + 1)))
else none))
else none
def fX6_longestRun  (rd_runFrom : Nat → Int) (rd_runTo : Nat → Int) (rd_runs : Int) : Option (Int) :=
zlp (fX6_longestRun_4 rd_runFrom rd_runTo rd_runs) zF (0, 0)
def fX6_read_123 (rec52 : Int × (Nat → Int) × (Nat → Int) × (Nat → Int) × (Nat → Int) × Int × Int → Option ((Nat → Int) × (Nat → Int) × (Nat → Int) × (Nat → Int) × (Nat → Int) × Int × Int × Int × Int)) (v3 : Int) (rd_kind : Nat → Int) (rd_runFrom : Nat → Int) (rd_runTo : Nat → Int) (rd_runDrive : Nat → Int) (rd_drive : Int) (rd_runs : Int) : Option ((Nat → Int) × (Nat → Int) × (Nat → Int) × (Nat → Int) × (Nat → Int) × Int × Int × Int × Int) :=
rec52 ((v3 + 1), rd_kind, rd_runFrom, rd_runTo, rd_runDrive, rd_drive, rd_runs)
def fX6_read_52 (v2 : Int) (cd_kind : Nat → Int) (cd_acts : Int) (rd_begin : Nat → Int) (rd_acts : Int) (rd_total : Int) (rec52 : Int × (Nat → Int) × (Nat → Int) × (Nat → Int) × (Nat → Int) × Int × Int → Option ((Nat → Int) × (Nat → Int) × (Nat → Int) × (Nat → Int) × (Nat → Int) × Int × Int × Int × Int)) : Int × (Nat → Int) × (Nat → Int) × (Nat → Int) × (Nat → Int) × Int × Int → Option ((Nat → Int) × (Nat → Int) × (Nat → Int) × (Nat → Int) × (Nat → Int) × Int × Int × Int × Int) := fun (v3, rd_kind, rd_runFrom, rd_runTo, rd_runDrive, rd_drive, rd_runs) =>
if zR v3 ∧ zR rd_acts then
(if rd_acts ≤ v3 then
some (rd_kind, rd_begin, rd_runFrom, rd_runTo, rd_runDrive, rd_acts, rd_total, rd_drive, rd_runs)
else
(fX1_kindRead v3 v2 cd_kind cd_acts).bind (fun r_68 =>
if 0 ≤ v3 ∧ v3 < 60 then
(if 0 ≤ v3 ∧ v3 < 60 then
(if zR ((zU rd_kind v3.toNat r_68) v3.toNat) then
(if ((zU rd_kind v3.toNat r_68) v3.toNat) ≠ 0 then
if 0 ≤ v3 ∧ v3 < 60 then
(if zR ((zU rd_kind v3.toNat r_68) v3.toNat) then
(if ((zU rd_kind v3.toNat r_68) v3.toNat) ≠ 2 then
fX6_read_123 rec52 v3 (zU rd_kind v3.toNat r_68) rd_runFrom rd_runTo rd_runDrive rd_drive rd_runs
else
(fX6_addRest v3 (zU rd_kind v3.toNat r_68) rd_begin rd_runFrom rd_runTo rd_runDrive rd_drive rd_runs).bind (fun (rd_runFrom_120, rd_runTo_120, rd_runDrive_120, rd_runs_120) =>
fX6_read_123 rec52 v3 (zU rd_kind v3.toNat r_68) rd_runFrom_120 rd_runTo_120 rd_runDrive_120 rd_drive rd_runs_120))
else none)
else none
else
if 0 ≤ (v3 + 1) ∧ (v3 + 1) < 61 then
(if 0 ≤ v3 ∧ v3 < 61 then
(fX6_read_123 rec52 v3 (zU rd_kind v3.toNat r_68) rd_runFrom rd_runTo rd_runDrive (rd_drive + ((rd_begin (v3 + 1).toNat) - (rd_begin v3.toNat))) rd_runs)
else none)
else none)
else none)
else none)
else none))
else none
def fX6_read (v2 : Int) (cd_kind : Nat → Int) (cd_begin : Nat → Int) (cd_acts : Int) (rd_kind : Nat → Int) (rd_begin : Nat → Int) (rd_runFrom : Nat → Int) (rd_runTo : Nat → Int) (rd_runDrive : Nat → Int) (rd_acts : Int) (rd_total : Int) (rd_drive : Int) (rd_runs : Int) : Option ((Nat → Int) × (Nat → Int) × (Nat → Int) × (Nat → Int) × (Nat → Int) × Int × Int × Int × Int) :=
if 0 ≤ cd_acts ∧ cd_acts < 61 then
(if ((0 : Int) ≤ 0 ∧ (0 : Int) ≤ 0 ∧ (0 : Int) ≤ (cd_acts + 1)) ∧ 0 + (cd_acts + 1) ≤ 61 ∧ 0 + (cd_acts + 1) ≤ 61 then
(zlp (fX6_read_52 v2 cd_kind cd_acts (zcp cd_begin rd_begin (0 : Int).toNat (0 : Int).toNat (cd_acts + 1).toNat) cd_acts (cd_begin cd_acts.toNat)) zF (0, rd_kind, rd_runFrom, rd_runTo, rd_runDrive, 0, 0))
else none)
else none
def fX7_append_3 (v1 : Int) (rec3 : Int × (Nat → Int) × Int → Option ((Nat → Int) × Int)) : Int × (Nat → Int) × Int → Option ((Nat → Int) × Int) := fun (v2, tp_bytes, tp_size) =>
if zR v2 then
(if v2 < 0 then
some (tp_bytes, tp_size)
else
if zR tp_size then
(if 80 ≤ tp_size then
some (tp_bytes, tp_size)
else
if 0 ≤ tp_size ∧ tp_size < 80 then
(rec3 ((v2 + (-8)), (zU tp_bytes tp_size.toNat (zand (zushr v1 v2) 255)), (tp_size + 1)))
else none)
else none)
else none
def fX7_append (v1 : Int) (tp_bytes : Nat → Int) (tp_size : Int) : Option ((Nat → Int) × Int) :=
zlp (fX7_append_3 v1) zF (24, tp_bytes, tp_size)
def fX7_hasRoom  (tp_size : Int) : Option (Int) :=
if zR tp_size then
(if 60 < tp_size then
some 0
else
some 1)
else none
def fX8_insert_57 (v1 : Int) (v2 : Int) (v3 : Int) (tr_from : Nat → Int) (tr_to : Nat → Int) (tr_size : Int) : Option (Int × (Nat → Int) × (Nat → Int) × Int) :=
if ((0 : Int) ≤ v3 ∧ (0 : Int) ≤ (v3 + 1) ∧ (0 : Int) ≤ (tr_size - v3)) ∧ v3 + (tr_size - v3) ≤ 20 ∧ (v3 + 1) + (tr_size - v3) ≤ 20 then
(if ((0 : Int) ≤ v3 ∧ (0 : Int) ≤ (v3 + 1) ∧ (0 : Int) ≤ (tr_size - v3)) ∧ v3 + (tr_size - v3) ≤ 20 ∧ (v3 + 1) + (tr_size - v3) ≤ 20 then
(if 0 ≤ v3 ∧ v3 < 20 then
(if 0 ≤ v3 ∧ v3 < 20 then
(some (1, (zU (zcp tr_from tr_from v3.toNat (v3 + 1).toNat (tr_size - v3).toNat) v3.toNat v1), (zU (zcp tr_to tr_to v3.toNat (v3 + 1).toNat (tr_size - v3).toNat) v3.toNat v2), (tr_size + 1)))
else none)
else none)
else none)
else none
def fX8_insert_37 (v1 : Int) (v2 : Int) (v3 : Int) (tr_from : Nat → Int) (tr_to : Nat → Int) (tr_size : Int) : Option (Int × (Nat → Int) × (Nat → Int) × Int) :=
if zR v3 ∧ zR tr_size then
(if tr_size ≤ v3 then
fX8_insert_57 v1 v2 v3 tr_from tr_to tr_size
else
if 0 ≤ v3 ∧ v3 < 20 then
(if zR (tr_from v3.toNat) ∧ zR v2 then
(if v2 ≤ (tr_from v3.toNat) then
fX8_insert_57 v1 v2 v3 tr_from tr_to tr_size
else
some (0, tr_from, tr_to, tr_size))
else none)
else none)
else none
def fX8_insert_13 (v1 : Int) (v2 : Int) (tr_from : Nat → Int) (tr_to : Nat → Int) (tr_size : Int) (rec13 : Int → Option (Int × (Nat → Int) × (Nat → Int) × Int)) : Int → Option (Int × (Nat → Int) × (Nat → Int) × Int) := fun v3 =>
if zR v3 ∧ zR tr_size then
(if tr_size ≤ v3 then
fX8_insert_37 v1 v2 v3 tr_from tr_to tr_size
else
if 0 ≤ v3 ∧ v3 < 20 then
(if zR (tr_to v3.toNat) ∧ zR v1 then
(if v1 < (tr_to v3.toNat) then
fX8_insert_37 v1 v2 v3 tr_from tr_to tr_size
else
rec13 (v3 + 1))
else none)
else none)
else none
def fX8_insert (v1 : Int) (v2 : Int) (tr_from : Nat → Int) (tr_to : Nat → Int) (tr_size : Int) : Option (Int × (Nat → Int) × (Nat → Int) × Int) :=
if zR tr_size then
(if tr_size < 20 then
zlp (fX8_insert_13 v1 v2 tr_from tr_to tr_size) zF 0
else
some (0, tr_from, tr_to, tr_size))
else none
def fX9_breakFrom (v1 : Int) (lw_numbers : Nat → Int) : Option (Int) :=
if zR v1 then
(if 2 ≤ v1 then
if zR (lw_numbers 1) ∧ zR ((lw_numbers 2) + (lw_numbers 3)) then
(some (min (lw_numbers 1) ((lw_numbers 2) + (lw_numbers 3))))
else none
else
some (lw_numbers 1))
else none
def fX9_frees_33  : Option (Int) :=
some 1
def fX9_frees_37  : Option (Int) :=
some 0
def fX9_frees (v1 : Int) (lw_numbers : Nat → Int) (wh_parted : Int) : Option (Int) :=
if zR v1 ∧ zR (lw_numbers 1) then
(if (lw_numbers 1) ≤ v1 then
fX9_frees_33
else
if zR wh_parted then
(if wh_parted = 0 then
fX9_frees_37
else
if zR v1 ∧ zR (lw_numbers 3) then
(if v1 < (lw_numbers 3) then
fX9_frees_37
else
fX9_frees_33)
else none)
else none)
else none
def fX9_passRun (v1 : Int) (lw_numbers : Nat → Int) (rd_runFrom : Nat → Int) (rd_runTo : Nat → Int) (rd_runDrive : Nat → Int) (wh_base : Int) (wh_parted : Int) : Option (Int × Int) :=
(fX6_runLength v1 rd_runFrom rd_runTo).bind (fun r_5 =>
(fX9_frees r_5 lw_numbers wh_parted).bind (fun r_11 =>
if zR r_11 then
(if r_11 = 0 then
if zR r_5 ∧ zR (lw_numbers 2) then
(if r_5 < (lw_numbers 2) then
some (wh_base, wh_parted)
else
some (wh_base, 1))
else none
else
if 0 ≤ v1 ∧ v1 < 60 then
(some ((rd_runDrive v1.toNat), 0))
else none)
else none))
def fX9_passRuns_12 (v1 : Int) (lw_numbers : Nat → Int) (rd_runFrom : Nat → Int) (rd_runTo : Nat → Int) (rd_runDrive : Nat → Int) (rec12 : Int × Int × Int → Option (Int × Int)) : Int × Int × Int → Option (Int × Int) := fun (v2, wh_base, wh_parted) =>
if zR v2 ∧ zR v1 then
(if v1 ≤ v2 then
some (wh_base, wh_parted)
else
(fX9_passRun v2 lw_numbers rd_runFrom rd_runTo rd_runDrive wh_base wh_parted).bind (fun (wh_base_19, wh_parted_19) =>
rec12 ((v2 + 1), wh_base_19, wh_parted_19)))
else none
def fX9_passRuns (v1 : Int) (lw_numbers : Nat → Int) (rd_runFrom : Nat → Int) (rd_runTo : Nat → Int) (rd_runDrive : Nat → Int) (wh_base : Int) (wh_parted : Int) : Option (Int × Int) :=
zlp (fX9_passRuns_12 v1 lw_numbers rd_runFrom rd_runTo rd_runDrive) zF (0, 0, 0)
def fX9_leftNow  (lw_numbers : Nat → Int) (rd_runFrom : Nat → Int) (rd_runTo : Nat → Int) (rd_runDrive : Nat → Int) (rd_drive : Int) (rd_runs : Int) (wh_base : Int) (wh_parted : Int) : Option (Int × Int × Int) :=
(fX9_passRuns rd_runs lw_numbers rd_runFrom rd_runTo rd_runDrive wh_base wh_parted).bind (fun (wh_base_8, wh_parted_8) =>
if zR 0 ∧ zR ((lw_numbers 0) - (rd_drive - wh_base_8)) then
(some ((max 0 ((lw_numbers 0) - (rd_drive - wh_base_8))), wh_base_8, wh_parted_8))
else none)
def fX9_mostInSpells (v1 : Int) (v2 : Int) (v3 : Int) (lw_numbers : Nat → Int) : Option (Int) :=
if zR v1 then
(if 0 < v1 then
if zR ((v3 - v1) - v2) then
(if 0 < ((v3 - v1) - v2) then
(fX9_breakFrom (lw_numbers 0) lw_numbers).bind (fun r_41 =>
if zR 1 ∧ zR ((lw_numbers 0) + r_41) then
(if zR ((v3 - v1) - v2) ∧ (zR (max 1 ((lw_numbers 0) + r_41)) ∧ ¬ (max 1 ((lw_numbers 0) + r_41)) = 0) ∧ ¬ (max 1 ((lw_numbers 0) + r_41)) = -1 then
(if zR ((v3 - v1) - v2) ∧ (zR (max 1 ((lw_numbers 0) + r_41)) ∧ ¬ (max 1 ((lw_numbers 0) + r_41)) = 0) ∧ ¬ (max 1 ((lw_numbers 0) + r_41)) = -1 then
(if zR (((v3 - v1) - v2) - Int.tdiv ((v3 - v1) - v2) (max 1 ((lw_numbers 0) + r_41)) * (max 1 ((lw_numbers 0) + r_41))) ∧ zR (lw_numbers 0) then
(some ((v1 + ((Int.tdiv ((v3 - v1) - v2) (max 1 ((lw_numbers 0) + r_41))) * (lw_numbers 0))) + (min (((v3 - v1) - v2) - Int.tdiv ((v3 - v1) - v2) (max 1 ((lw_numbers 0) + r_41)) * (max 1 ((lw_numbers 0) + r_41))) (lw_numbers 0))))
else none)
else none)
else none)
else none)
else
if zR v3 ∧ zR v1 then
(some (min v3 v1))
else none)
else none
else
some 0)
else none
def fX9_mostBehindRest_66 (v2 : Int) (v4 : Int) (lw_numbers : Nat → Int) : Option (Int) :=
if zR (lw_numbers 1) ∧ zR (lw_numbers 3) then
((fX9_mostInSpells v4 (min (lw_numbers 1) (lw_numbers 3)) v2 lw_numbers).bind (fun r_91 =>
some r_91))
else none
def fX9_mostBehindRest (v1 : Int) (v2 : Int) (lw_numbers : Nat → Int) (rd_drive : Int) (wh_base : Int) (wh_parted : Int) : Option (Int) :=
(fX9_frees v1 lw_numbers wh_parted).bind (fun r_12 =>
if zR r_12 then
(if r_12 = 0 then
if zR wh_parted then
(if wh_parted ≠ 0 then
fX9_mostBehindRest_66 v2 ((lw_numbers 0) - (rd_drive - wh_base)) lw_numbers
else
if zR v1 ∧ zR (lw_numbers 2) then
(if v1 < (lw_numbers 2) then
(fX9_breakFrom ((lw_numbers 0) - (rd_drive - wh_base)) lw_numbers).bind (fun r_101 =>
(fX9_mostInSpells ((lw_numbers 0) - (rd_drive - wh_base)) r_101 v2 lw_numbers).bind (fun r_105 =>
some r_105))
else
fX9_mostBehindRest_66 v2 ((lw_numbers 0) - (rd_drive - wh_base)) lw_numbers)
else none)
else none
else
(fX9_breakFrom (lw_numbers 0) lw_numbers).bind (fun r_22 =>
(fX9_mostInSpells (lw_numbers 0) r_22 v2 lw_numbers).bind (fun r_26 =>
some r_26)))
else none)
def fX9_mostWithRestTo (v1 : Int) (v2 : Int) (v3 : Int) (lw_numbers : Nat → Int) (rd_drive : Int) (wh_base : Int) (wh_parted : Int) : Option (Int) :=
if zR 0 ∧ zR (v1 - v2) then
(if zR (max 0 (v1 - v2)) ∧ zR v3 then
(if (max 0 (v1 - v2)) ≤ v3 then
(fX9_mostBehindRest (v2 + (max 0 (v1 - v2))) (v3 - (max 0 (v1 - v2))) lw_numbers rd_drive wh_base wh_parted).bind (fun r_28 =>
some r_28)
else
some 0)
else none)
else none
def fX9_mostAhead_56 (v1 : Int) (v2 : Int) (lw_numbers : Nat → Int) (rd_drive : Int) (wh_base : Int) (wh_parted : Int) : Option (Int × Int × Int) :=
(fX9_mostBehindRest v2 v1 lw_numbers rd_drive wh_base wh_parted).bind (fun r_59 =>
(fX9_mostWithRestTo (lw_numbers 2) v2 v1 lw_numbers rd_drive wh_base wh_parted).bind (fun r_76 =>
if zR r_59 ∧ zR r_76 then
((fX9_mostWithRestTo (lw_numbers 3) v2 v1 lw_numbers rd_drive wh_base wh_parted).bind (fun r_96 =>
if zR (max r_59 r_76) ∧ zR r_96 then
((fX9_mostWithRestTo (lw_numbers 1) v2 v1 lw_numbers rd_drive wh_base wh_parted).bind (fun r_116 =>
if zR (max (max r_59 r_76) r_96) ∧ zR r_116 then
(some ((max (max (max r_59 r_76) r_96) r_116), wh_base, wh_parted))
else none))
else none))
else none))
def fX9_mostAhead (v1 : Int) (lw_numbers : Nat → Int) (rd_runFrom : Nat → Int) (rd_runTo : Nat → Int) (rd_runDrive : Nat → Int) (rd_total : Int) (rd_drive : Int) (rd_runs : Int) (wh_base : Int) (wh_parted : Int) : Option (Int × Int × Int) :=
(fX6_endsWithRun rd_runTo rd_total rd_runs).bind (fun r_6 =>
if zR r_6 then
(if r_6 = 0 then
(fX9_passRuns rd_runs lw_numbers rd_runFrom rd_runTo rd_runDrive wh_base wh_parted).bind (fun (wh_base_53, wh_parted_53) =>
fX9_mostAhead_56 v1 0 lw_numbers rd_drive wh_base_53 wh_parted_53)
else
(fX9_passRuns (rd_runs - 1) lw_numbers rd_runFrom rd_runTo rd_runDrive wh_base wh_parted).bind (fun (wh_base_22, wh_parted_22) =>
(fX6_runLength (rd_runs - 1) rd_runFrom rd_runTo).bind (fun r_38 =>
fX9_mostAhead_56 v1 r_38 lw_numbers rd_drive wh_base_22 wh_parted_22)))
else none)
def fX9_tellSpell (v2 : Int) (v3 : Int) (br_minute : Nat → Int) (br_rule : Nat → Int) (br_much : Nat → Int) (br_size : Int) (lw_numbers : Nat → Int) (rd_kind : Nat → Int) (rd_begin : Nat → Int) (rd_acts : Int) (rd_total : Int) : Option ((Nat → Int) × (Nat → Int) × (Nat → Int) × Int) :=
if zR v3 ∧ zR (v2 + (lw_numbers 0)) then
(if v3 ≤ (v2 + (lw_numbers 0)) then
some (br_minute, br_rule, br_much, br_size)
else
(fX6_driveMinute (v2 + (lw_numbers 0)) rd_kind rd_begin rd_acts rd_total).bind (fun r_26 =>
(fX0_insert r_26 1 (v3 - (v2 + (lw_numbers 0))) br_minute br_rule br_much br_size).bind (fun (br_minute_34, br_rule_34, br_much_34, br_size_34) =>
some (br_minute_34, br_rule_34, br_much_34, br_size_34))))
else none
def fX9_tellOver_46 (rec7 : Int × (Nat → Int) × (Nat → Int) × (Nat → Int) × Int × Int × Int → Option ((Nat → Int) × (Nat → Int) × (Nat → Int) × Int × Int × Int)) (v2 : Int) (br_minute : Nat → Int) (br_rule : Nat → Int) (br_much : Nat → Int) (br_size : Int) (wh_base : Int) (wh_parted : Int) : Option ((Nat → Int) × (Nat → Int) × (Nat → Int) × Int × Int × Int) :=
rec7 ((v2 + 1), br_minute, br_rule, br_much, br_size, wh_base, wh_parted)
def fX9_tellOver_7 (lw_numbers : Nat → Int) (rd_kind : Nat → Int) (rd_begin : Nat → Int) (rd_runFrom : Nat → Int) (rd_runTo : Nat → Int) (rd_runDrive : Nat → Int) (rd_acts : Int) (rd_total : Int) (rd_drive : Int) (rd_runs : Int) (rec7 : Int × (Nat → Int) × (Nat → Int) × (Nat → Int) × Int × Int × Int → Option ((Nat → Int) × (Nat → Int) × (Nat → Int) × Int × Int × Int)) : Int × (Nat → Int) × (Nat → Int) × (Nat → Int) × Int × Int × Int → Option ((Nat → Int) × (Nat → Int) × (Nat → Int) × Int × Int × Int) := fun (v2, br_minute, br_rule, br_much, br_size, wh_base, wh_parted) =>
if zR v2 ∧ zR rd_runs then
(if rd_runs ≤ v2 then
(fX9_tellSpell wh_base rd_drive br_minute br_rule br_much br_size lw_numbers rd_kind rd_begin rd_acts rd_total).bind (fun (br_minute_65, br_rule_65, br_much_65, br_size_65) =>
some (br_minute_65, br_rule_65, br_much_65, br_size_65, wh_base, wh_parted))
else
(fX9_passRun v2 lw_numbers rd_runFrom rd_runTo rd_runDrive wh_base wh_parted).bind (fun (wh_base_25, wh_parted_25) =>
if zR wh_base_25 ∧ zR wh_base then
(if wh_base_25 ≤ wh_base then
fX9_tellOver_46 rec7 v2 br_minute br_rule br_much br_size wh_base_25 wh_parted_25
else
(fX9_tellSpell wh_base wh_base_25 br_minute br_rule br_much br_size lw_numbers rd_kind rd_begin rd_acts rd_total).bind (fun (br_minute_43, br_rule_43, br_much_43, br_size_43) =>
fX9_tellOver_46 rec7 v2 br_minute_43 br_rule_43 br_much_43 br_size_43 wh_base_25 wh_parted_25))
else none))
else none
def fX9_tellOver  (br_minute : Nat → Int) (br_rule : Nat → Int) (br_much : Nat → Int) (br_size : Int) (lw_numbers : Nat → Int) (rd_kind : Nat → Int) (rd_begin : Nat → Int) (rd_runFrom : Nat → Int) (rd_runTo : Nat → Int) (rd_runDrive : Nat → Int) (rd_acts : Int) (rd_total : Int) (rd_drive : Int) (rd_runs : Int) (wh_base : Int) (wh_parted : Int) : Option ((Nat → Int) × (Nat → Int) × (Nat → Int) × Int × Int × Int) :=
(fX9_passRuns 0 lw_numbers rd_runFrom rd_runTo rd_runDrive wh_base wh_parted).bind (fun (wh_base_2, wh_parted_2) =>
zlp (fX9_tellOver_7 lw_numbers rd_kind rd_begin rd_runFrom rd_runTo rd_runDrive rd_acts rd_total rd_drive rd_runs) zF (0, br_minute, br_rule, br_much, br_size, wh_base_2, wh_parted_2))
def fX11_isCard_13  : Option (Int) :=
some 0
def fX11_isCard (v0 : Int)  : Option (Int) :=
if zR v0 then
(if v0 < 0 then
fX11_isCard_13
else
if zR v0 then
(if 4 ≤ v0 then
fX11_isCard_13
else
some 1)
else none)
else none
def fX11_isKind_22  : Option (Int) :=
some 1
def fX11_isKind_26  : Option (Int) :=
some 0
def fX11_isKind (v0 : Int) (v1 : Int)  : Option (Int) :=
if zR v0 then
(if v0 < 0 then
fX11_isKind_26
else
if zR v0 then
(if 4 < v0 then
fX11_isKind_26
else
if zR v0 then
(if v0 ≠ 0 then
fX11_isKind_22
else
if zR v1 then
(if v1 = 0 then
fX11_isKind_22
else
if zR v1 then
(if v1 ≠ 1 then
fX11_isKind_26
else
fX11_isKind_22)
else none)
else none)
else none)
else none)
else none
def fX11_act_53 (mo_acts : Nat → Int) (mo_minutes : Nat → Int) (mo_kindOf : Nat → Int) (mo_lengthOf : Nat → Int) (mo_vehicleOf : Nat → Int) : Option (Int × (Nat → Int) × (Nat → Int) × (Nat → Int) × (Nat → Int) × (Nat → Int)) :=
some ((-1), mo_acts, mo_minutes, mo_kindOf, mo_lengthOf, mo_vehicleOf)
def fX11_act_100 (v1 : Int) (v3 : Int) (s1 : Int) (s2 : Int) (mo_acts : Nat → Int) (mo_minutes : Nat → Int) (mo_kindOf : Nat → Int) (mo_lengthOf : Nat → Int) (mo_vehicleOf : Nat → Int) : Option (Int × (Nat → Int) × (Nat → Int) × (Nat → Int) × (Nat → Int) × (Nat → Int)) :=
if 0 ≤ s1 ∧ s1 < 240 then
(if 0 ≤ v1 ∧ v1 < 4 then
(if 0 ≤ v1 ∧ v1 < 4 then
(if 0 ≤ v1 ∧ v1 < 4 then
(if 0 ≤ v1 ∧ v1 < 4 then
(if 0 ≤ v1 ∧ v1 < 4 then
(some ((((zU mo_acts v1.toNat ((mo_acts v1.toNat) + 1)) v1.toNat) - 1), (zU mo_acts v1.toNat ((mo_acts v1.toNat) + 1)), (zU mo_minutes v1.toNat ((mo_minutes v1.toNat) + v3)), mo_kindOf, mo_lengthOf, (zU mo_vehicleOf s1.toNat s2)))
else none)
else none)
else none)
else none)
else none)
else none
def fX11_act (v1 : Int) (v2 : Int) (v3 : Int) (v4 : Int) (mo_acts : Nat → Int) (mo_minutes : Nat → Int) (mo_kindOf : Nat → Int) (mo_lengthOf : Nat → Int) (mo_vehicleOf : Nat → Int) : Option (Int × (Nat → Int) × (Nat → Int) × (Nat → Int) × (Nat → Int) × (Nat → Int)) :=
(fX11_isCard v1).bind (fun r_1 =>
if zR r_1 then
(if r_1 = 0 then
fX11_act_53 mo_acts mo_minutes mo_kindOf mo_lengthOf mo_vehicleOf
else
(fX11_isKind v2 v4).bind (fun r_10 =>
if zR r_10 then
(if r_10 = 0 then
fX11_act_53 mo_acts mo_minutes mo_kindOf mo_lengthOf mo_vehicleOf
else
if zR v3 then
(if v3 < 1 then
fX11_act_53 mo_acts mo_minutes mo_kindOf mo_lengthOf mo_vehicleOf
else
if zR v3 then
(if 20160 < v3 then
fX11_act_53 mo_acts mo_minutes mo_kindOf mo_lengthOf mo_vehicleOf
else
if 0 ≤ v1 ∧ v1 < 4 then
(if zR (mo_acts v1.toNat) then
(if (mo_acts v1.toNat) = 60 then
fX11_act_53 mo_acts mo_minutes mo_kindOf mo_lengthOf mo_vehicleOf
else
if 0 ≤ v1 ∧ v1 < 4 then
(if zR ((mo_minutes v1.toNat) + v3) then
(if ((mo_minutes v1.toNat) + v3) ≤ 20160 then
if 0 ≤ v1 ∧ v1 < 4 then
(if 0 ≤ ((60 * v1) + (mo_acts v1.toNat)) ∧ ((60 * v1) + (mo_acts v1.toNat)) < 240 then
(if 0 ≤ ((60 * v1) + (mo_acts v1.toNat)) ∧ ((60 * v1) + (mo_acts v1.toNat)) < 240 then
(if zR v2 then
(if v2 ≠ 0 then
fX11_act_100 v1 v3 ((60 * v1) + (mo_acts v1.toNat)) (-1) mo_acts mo_minutes (zU mo_kindOf ((60 * v1) + (mo_acts v1.toNat)).toNat v2) (zU mo_lengthOf ((60 * v1) + (mo_acts v1.toNat)).toNat v3) mo_vehicleOf
else
fX11_act_100 v1 v3 ((60 * v1) + (mo_acts v1.toNat)) v4 mo_acts mo_minutes (zU mo_kindOf ((60 * v1) + (mo_acts v1.toNat)).toNat v2) (zU mo_lengthOf ((60 * v1) + (mo_acts v1.toNat)).toNat v3) mo_vehicleOf)
else none)
else none)
else none)
else none
else
fX11_act_53 mo_acts mo_minutes mo_kindOf mo_lengthOf mo_vehicleOf)
else none)
else none)
else none)
else none)
else none)
else none)
else none))
else none)
def fX11_isOnTrip_42 (rec5 : Int → Option (Int)) (v3 : Int) : Option (Int) :=
rec5 (v3 + 1)
def fX11_isOnTrip_5 (v1 : Int) (v2 : Int) (mo_trips : Nat → Int) (mo_tripFrom : Nat → Int) (mo_tripTo : Nat → Int) (rec5 : Int → Option (Int)) : Int → Option (Int) := fun v3 =>
if 0 ≤ v1 ∧ v1 < 2 then
(if zR v3 ∧ zR ((20 * v1) + (mo_trips v1.toNat)) then
(if ((20 * v1) + (mo_trips v1.toNat)) ≤ v3 then
some 0
else
if 0 ≤ v3 ∧ v3 < 40 then
(if zR v2 ∧ zR (mo_tripFrom v3.toNat) then
(if v2 < (mo_tripFrom v3.toNat) then
fX11_isOnTrip_42 rec5 v3
else
if 0 ≤ v3 ∧ v3 < 40 then
(if zR v2 ∧ zR (mo_tripTo v3.toNat) then
(if (mo_tripTo v3.toNat) ≤ v2 then
fX11_isOnTrip_42 rec5 v3
else
some 1)
else none)
else none)
else none)
else none)
else none)
else none
def fX11_isOnTrip (v1 : Int) (v2 : Int) (mo_trips : Nat → Int) (mo_tripFrom : Nat → Int) (mo_tripTo : Nat → Int) : Option (Int) :=
zlp (fX11_isOnTrip_5 v1 v2 mo_trips mo_tripFrom mo_tripTo) zF (20 * v1)
def fX11_against_18 (mo_driving : Nat → Int) : Option (Int × (Nat → Int)) :=
some ((-1), mo_driving)
def fX11_against_268 (rec166 : Int × Int → Option (Int × (Nat → Int))) (v4 : Int) (s0 : Int) (s1 : Int) : Option (Int × (Nat → Int)) :=
rec166 ((s0 + s1), (v4 + 1))
def fX11_against_255 (rec166 : Int × Int → Option (Int × (Nat → Int))) (v3 : Int) (v4 : Int) (s0 : Int) : Option (Int × (Nat → Int)) :=
if zR s0 then
(if s0 = 0 then
fX11_against_268 rec166 v4 v3 0
else
fX11_against_268 rec166 v4 v3 1)
else none
def fX11_against_226 (rec166 : Int × Int → Option (Int × (Nat → Int))) (v3 : Int) (v4 : Int) : Option (Int × (Nat → Int)) :=
fX11_against_255 rec166 v3 v4 0
def fX11_against_254 (rec166 : Int × Int → Option (Int × (Nat → Int))) (v3 : Int) (v4 : Int) : Option (Int × (Nat → Int)) :=
fX11_against_255 rec166 v3 v4 0
def fX11_against_166 (v1 : Int) (v2 : Int) (mo_trips : Nat → Int) (mo_tripFrom : Nat → Int) (mo_tripTo : Nat → Int) (mo_driving : Nat → Int) (rec166 : Int × Int → Option (Int × (Nat → Int))) : Int × Int → Option (Int × (Nat → Int)) := fun (v3, v4) =>
if zR v4 then
(if 20160 ≤ v4 then
some (v3, mo_driving)
else
if zR v2 then
(if v2 ≠ 1 then
if zR v2 then
(if v2 ≠ 0 then
if 0 ≤ v4 ∧ v4 < 20160 then
(if zR (mo_driving v4.toNat) then
(if (mo_driving v4.toNat) ≤ 0 then
fX11_against_254 rec166 v3 v4
else
(fX11_isOnTrip v1 v4 mo_trips mo_tripFrom mo_tripTo).bind (fun r_244 =>
if zR r_244 then
(if r_244 ≠ 0 then
fX11_against_254 rec166 v3 v4
else
fX11_against_255 rec166 v3 v4 1)
else none))
else none)
else none
else
if 0 ≤ v4 ∧ v4 < 20160 then
(if zR (mo_driving v4.toNat) then
(if (mo_driving v4.toNat) ≠ 0 then
fX11_against_226 rec166 v3 v4
else
(fX11_isOnTrip v1 v4 mo_trips mo_tripFrom mo_tripTo).bind (fun r_216 =>
if zR r_216 then
(if r_216 = 0 then
fX11_against_226 rec166 v3 v4
else
fX11_against_255 rec166 v3 v4 1)
else none))
else none)
else none)
else none
else
if 0 ≤ v4 ∧ v4 < 20160 then
(if zR (mo_driving v4.toNat) then
(if (mo_driving v4.toNat) < 2 then
fX11_against_255 rec166 v3 v4 0
else
fX11_against_255 rec166 v3 v4 1)
else none)
else none)
else none)
else none
def fX11_against_137 (rec55 : Int × Int × (Nat → Int) → Option (Int × (Nat → Int))) (v4 : Int) (v5 : Int) (v6 : Int) (mo_lengthOf : Nat → Int) (mo_driving : Nat → Int) : Option (Int × (Nat → Int)) :=
if 0 ≤ v6 ∧ v6 < 240 then
(rec55 ((v4 + (mo_lengthOf v6.toNat)), (v5 + 1), mo_driving))
else none
def fX11_against_79 (rec55 : Int × Int × (Nat → Int) → Option (Int × (Nat → Int))) (v1 : Int) (v4 : Int) (v5 : Int) (v6 : Int) (mo_kindOf : Nat → Int) (mo_lengthOf : Nat → Int) (mo_vehicleOf : Nat → Int) (rec79 : Int × (Nat → Int) → Option (Int × (Nat → Int))) : Int × (Nat → Int) → Option (Int × (Nat → Int)) := fun (v7, mo_driving) =>
if 0 ≤ v6 ∧ v6 < 240 then
(if zR v7 ∧ zR (v4 + (mo_lengthOf v6.toNat)) then
(if (v4 + (mo_lengthOf v6.toNat)) ≤ v7 then
fX11_against_137 rec55 v4 v5 v6 mo_lengthOf mo_driving
else
if 0 ≤ v6 ∧ v6 < 240 then
(if zR (mo_kindOf v6.toNat) then
(if (mo_kindOf v6.toNat) ≠ 0 then
fX11_against_137 rec55 v4 v5 v6 mo_lengthOf mo_driving
else
if 0 ≤ v6 ∧ v6 < 240 then
(if zR (mo_vehicleOf v6.toNat) ∧ zR v1 then
(if (mo_vehicleOf v6.toNat) ≠ v1 then
fX11_against_137 rec55 v4 v5 v6 mo_lengthOf mo_driving
else
if 0 ≤ v7 ∧ v7 < 20160 then
(if 0 ≤ v7 ∧ v7 < 20160 then
(rec79 ((v7 + 1), (zU mo_driving v7.toNat ((mo_driving v7.toNat) + 1))))
else none)
else none)
else none)
else none)
else none)
else none)
else none)
else none
def fX11_against_55 (rec44 : Int × (Nat → Int) → Option (Int × (Nat → Int))) (v1 : Int) (v3 : Int) (mo_acts : Nat → Int) (mo_kindOf : Nat → Int) (mo_lengthOf : Nat → Int) (mo_vehicleOf : Nat → Int) (rec55 : Int × Int × (Nat → Int) → Option (Int × (Nat → Int))) : Int × Int × (Nat → Int) → Option (Int × (Nat → Int)) := fun (v4, v5, mo_driving) =>
if 0 ≤ v3 ∧ v3 < 4 then
(if zR v5 ∧ zR (mo_acts v3.toNat) then
(if (mo_acts v3.toNat) ≤ v5 then
rec44 ((v3 + 1), mo_driving)
else
zlp (fX11_against_79 rec55 v1 v4 v5 ((60 * v3) + v5) mo_kindOf mo_lengthOf mo_vehicleOf) zF (v4, mo_driving))
else none)
else none
def fX11_against_44 (v1 : Int) (v2 : Int) (mo_acts : Nat → Int) (mo_kindOf : Nat → Int) (mo_lengthOf : Nat → Int) (mo_vehicleOf : Nat → Int) (mo_trips : Nat → Int) (mo_tripFrom : Nat → Int) (mo_tripTo : Nat → Int) (rec44 : Int × (Nat → Int) → Option (Int × (Nat → Int))) : Int × (Nat → Int) → Option (Int × (Nat → Int)) := fun (v3, mo_driving) =>
if zR v3 then
(if 4 ≤ v3 then
zlp (fX11_against_166 v1 v2 mo_trips mo_tripFrom mo_tripTo mo_driving) zF (0, 0)
else
zlp (fX11_against_55 rec44 v1 v3 mo_acts mo_kindOf mo_lengthOf mo_vehicleOf) zF (0, 0, mo_driving))
else none
def fX11_against_22 (v1 : Int) (v2 : Int) (mo_acts : Nat → Int) (mo_kindOf : Nat → Int) (mo_lengthOf : Nat → Int) (mo_vehicleOf : Nat → Int) (mo_trips : Nat → Int) (mo_tripFrom : Nat → Int) (mo_tripTo : Nat → Int) (rec22 : Int × (Nat → Int) → Option (Int × (Nat → Int))) : Int × (Nat → Int) → Option (Int × (Nat → Int)) := fun (v3, mo_driving) =>
if zR v3 then
(if 20160 ≤ v3 then
zlp (fX11_against_44 v1 v2 mo_acts mo_kindOf mo_lengthOf mo_vehicleOf mo_trips mo_tripFrom mo_tripTo) zF (0, mo_driving)
else
if 0 ≤ v3 ∧ v3 < 20160 then
(rec22 ((v3 + 1), (zU mo_driving v3.toNat 0)))
else none)
else none
def fX11_against (v1 : Int) (v2 : Int) (mo_acts : Nat → Int) (mo_kindOf : Nat → Int) (mo_lengthOf : Nat → Int) (mo_vehicleOf : Nat → Int) (mo_trips : Nat → Int) (mo_tripFrom : Nat → Int) (mo_tripTo : Nat → Int) (mo_driving : Nat → Int) : Option (Int × (Nat → Int)) :=
if zR v1 then
(if v1 < 0 then
fX11_against_18 mo_driving
else
if zR v1 then
(if 1 < v1 then
fX11_against_18 mo_driving
else
if zR v2 then
(if v2 < 0 then
fX11_against_18 mo_driving
else
if zR v2 then
(if v2 ≤ 2 then
zlp (fX11_against_22 v1 v2 mo_acts mo_kindOf mo_lengthOf mo_vehicleOf mo_trips mo_tripFrom mo_tripTo) zF (0, mo_driving)
else
fX11_against_18 mo_driving)
else none)
else none)
else none)
else none
def fX11_begins  (p0 : Nat → Int) : Option ((Nat → Int)) :=
some (zU (zU (zU (zU (zU (zU (zU (zU (zU (zU (zU p0 0 270) 1 45) 2 15) 3 30) 4 540) 5 600) 6 2) 7 660) 8 540) 9 3) 10 3360)
def fX11_bits_4 (v0 : Int) (rec4 : Int × Int → Option (Int)) : Int × Int → Option (Int) := fun (v1, v2) =>
if zR v2 then
(if 12 ≤ v2 then
some v1
else
rec4 ((v1 + (zand (zshr v0 v2) 1)), (v2 + 1)))
else none
def fX11_bits (v0 : Int)  : Option (Int) :=
zlp (fX11_bits_4 v0) zF (0, 0)
def fX11_isRest_48  : Option (Int) :=
some 1
def fX11_isRest_52  : Option (Int) :=
some 0
def fX11_isRest (v1 : Int) (v2 : Int) (v3 : Int) (mo_acts : Nat → Int) (mo_kindOf : Nat → Int) : Option (Int) :=
if zR v2 then
(if v2 < 0 then
fX11_isRest_52
else
if 0 ≤ v1 ∧ v1 < 4 then
(if zR v2 ∧ zR (mo_acts v1.toNat) then
(if (mo_acts v1.toNat) ≤ v2 then
fX11_isRest_52
else
if 0 ≤ ((60 * v1) + v2) ∧ ((60 * v1) + v2) < 240 then
(if zR (mo_kindOf ((60 * v1) + v2).toNat) then
(if (mo_kindOf ((60 * v1) + v2).toNat) = 2 then
fX11_isRest_48
else
if 0 ≤ ((60 * v1) + v2) ∧ ((60 * v1) + v2) < 240 then
(if zR (mo_kindOf ((60 * v1) + v2).toNat) then
(if (mo_kindOf ((60 * v1) + v2).toNat) ≠ 4 then
fX11_isRest_52
else
if zR v3 then
(if v3 ≠ 0 then
fX11_isRest_52
else
fX11_isRest_48)
else none)
else none)
else none)
else none)
else none)
else none)
else none)
else none
def fX11_readAs_63  : Option (Int) :=
some 1
def fX11_readAs (v1 : Int) (v2 : Int) (v3 : Int) (mo_acts : Nat → Int) (mo_kindOf : Nat → Int) : Option (Int) :=
if 0 ≤ ((60 * v1) + v2) ∧ ((60 * v1) + v2) < 240 then
(if zR (mo_kindOf ((60 * v1) + v2).toNat) then
(if (mo_kindOf ((60 * v1) + v2).toNat) ≠ 4 then
if zR (mo_kindOf ((60 * v1) + v2).toNat) then
(if (mo_kindOf ((60 * v1) + v2).toNat) ≠ 3 then
some (mo_kindOf ((60 * v1) + v2).toNat)
else
(fX11_isRest v1 (v2 - 1) v3 mo_acts mo_kindOf).bind (fun r_41 =>
if zR r_41 then
(if r_41 = 0 then
fX11_readAs_63
else
(fX11_isRest v1 (v2 + 1) v3 mo_acts mo_kindOf).bind (fun r_53 =>
if zR r_53 then
(if r_53 = 0 then
fX11_readAs_63
else
some 2)
else none))
else none))
else none
else
if zR v3 then
(if v3 = 0 then
some 2
else
some 0)
else none)
else none)
else none
def fX11_lays_192 (rec92 : Int × (Nat → Int) × (Nat → Int) × (Nat → Int) × Int → Option ((Nat → Int) × (Nat → Int) × (Nat → Int) × (Nat → Int) × Int × Int)) (v3 : Int) (mo_driven : Nat → Int) (mo_runFrom : Nat → Int) (mo_runTo : Nat → Int) (mo_runs : Int) : Option ((Nat → Int) × (Nat → Int) × (Nat → Int) × (Nat → Int) × Int × Int) :=
rec92 ((v3 + 1), mo_driven, mo_runFrom, mo_runTo, mo_runs)
def fX11_lays_178 (rec92 : Int × (Nat → Int) × (Nat → Int) × (Nat → Int) × Int → Option ((Nat → Int) × (Nat → Int) × (Nat → Int) × (Nat → Int) × Int × Int)) (v3 : Int) (mo_driven : Nat → Int) (mo_runFrom : Nat → Int) (mo_runTo : Nat → Int) (mo_runs : Int) : Option ((Nat → Int) × (Nat → Int) × (Nat → Int) × (Nat → Int) × Int × Int) :=
if 0 ≤ (mo_runs - 1) ∧ (mo_runs - 1) < 60 then
(fX11_lays_192 rec92 v3 mo_driven mo_runFrom (zU mo_runTo (mo_runs - 1).toNat (v3 + 1)) mo_runs)
else none
def fX11_lays_158 (rec92 : Int × (Nat → Int) × (Nat → Int) × (Nat → Int) × Int → Option ((Nat → Int) × (Nat → Int) × (Nat → Int) × (Nat → Int) × Int × Int)) (v3 : Int) (mo_driven : Nat → Int) (mo_runFrom : Nat → Int) (mo_runTo : Nat → Int) (mo_runs : Int) : Option ((Nat → Int) × (Nat → Int) × (Nat → Int) × (Nat → Int) × Int × Int) :=
if 0 ≤ mo_runs ∧ mo_runs < 60 then
(fX11_lays_178 rec92 v3 mo_driven (zU mo_runFrom mo_runs.toNat v3) mo_runTo (mo_runs + 1))
else none
def fX11_lays_127 (rec92 : Int × (Nat → Int) × (Nat → Int) × (Nat → Int) × Int → Option ((Nat → Int) × (Nat → Int) × (Nat → Int) × (Nat → Int) × Int × Int)) (v3 : Int) (s1 : Int) (s2 : Int) (s3 : Int) (mo_laid : Nat → Int) (mo_driven : Nat → Int) (mo_runFrom : Nat → Int) (mo_runTo : Nat → Int) (mo_runs : Int) : Option ((Nat → Int) × (Nat → Int) × (Nat → Int) × (Nat → Int) × Int × Int) :=
if 0 ≤ s1 ∧ s1 < 20161 then
(if 0 ≤ v3 ∧ v3 < 20160 then
(if zR (mo_laid v3.toNat) then
(if (mo_laid v3.toNat) = 2 then
if zR v3 then
(if v3 = 0 then
fX11_lays_158 rec92 v3 (zU mo_driven s1.toNat (s2 + s3)) mo_runFrom mo_runTo mo_runs
else
if 0 ≤ (v3 - 1) ∧ (v3 - 1) < 20160 then
(if zR (mo_laid (v3 - 1).toNat) then
(if (mo_laid (v3 - 1).toNat) = 2 then
fX11_lays_178 rec92 v3 (zU mo_driven s1.toNat (s2 + s3)) mo_runFrom mo_runTo mo_runs
else
fX11_lays_158 rec92 v3 (zU mo_driven s1.toNat (s2 + s3)) mo_runFrom mo_runTo mo_runs)
else none)
else none)
else none
else
fX11_lays_192 rec92 v3 (zU mo_driven s1.toNat (s2 + s3)) mo_runFrom mo_runTo mo_runs)
else none)
else none)
else none
def fX11_lays_92 (mo_laid : Nat → Int) (mo_size : Int) (rec92 : Int × (Nat → Int) × (Nat → Int) × (Nat → Int) × Int → Option ((Nat → Int) × (Nat → Int) × (Nat → Int) × (Nat → Int) × Int × Int)) : Int × (Nat → Int) × (Nat → Int) × (Nat → Int) × Int → Option ((Nat → Int) × (Nat → Int) × (Nat → Int) × (Nat → Int) × Int × Int) := fun (v3, mo_driven, mo_runFrom, mo_runTo, mo_runs) =>
if zR v3 ∧ zR mo_size then
(if mo_size ≤ v3 then
some (mo_laid, mo_driven, mo_runFrom, mo_runTo, mo_size, mo_runs)
else
if 0 ≤ v3 ∧ v3 < 20161 then
(if 0 ≤ v3 ∧ v3 < 20160 then
(if zR (mo_laid v3.toNat) then
(if (mo_laid v3.toNat) ≠ 0 then
fX11_lays_127 rec92 v3 (v3 + 1) (mo_driven v3.toNat) 0 mo_laid mo_driven mo_runFrom mo_runTo mo_runs
else
fX11_lays_127 rec92 v3 (v3 + 1) (mo_driven v3.toNat) 1 mo_laid mo_driven mo_runFrom mo_runTo mo_runs)
else none)
else none)
else none)
else none
def fX11_lays_29 (rec7 : Int × (Nat → Int) × Int → Option ((Nat → Int) × (Nat → Int) × (Nat → Int) × (Nat → Int) × Int × Int)) (v1 : Int) (v3 : Int) (v4 : Int) (mo_lengthOf : Nat → Int) (rec29 : Int × (Nat → Int) × Int → Option ((Nat → Int) × (Nat → Int) × (Nat → Int) × (Nat → Int) × Int × Int)) : Int × (Nat → Int) × Int → Option ((Nat → Int) × (Nat → Int) × (Nat → Int) × (Nat → Int) × Int × Int) := fun (v5, mo_laid, mo_size) =>
if 0 ≤ ((60 * v1) + v3) ∧ ((60 * v1) + v3) < 240 then
(if zR v5 ∧ zR (mo_lengthOf ((60 * v1) + v3).toNat) then
(if (mo_lengthOf ((60 * v1) + v3).toNat) ≤ v5 then
rec7 ((v3 + 1), mo_laid, mo_size)
else
if 0 ≤ mo_size ∧ mo_size < 20160 then
(rec29 ((v5 + 1), (zU mo_laid mo_size.toNat v4), (mo_size + 1)))
else none)
else none)
else none
def fX11_lays_7 (v1 : Int) (v2 : Int) (mo_acts : Nat → Int) (mo_kindOf : Nat → Int) (mo_lengthOf : Nat → Int) (mo_driven : Nat → Int) (mo_runFrom : Nat → Int) (mo_runTo : Nat → Int) (rec7 : Int × (Nat → Int) × Int → Option ((Nat → Int) × (Nat → Int) × (Nat → Int) × (Nat → Int) × Int × Int)) : Int × (Nat → Int) × Int → Option ((Nat → Int) × (Nat → Int) × (Nat → Int) × (Nat → Int) × Int × Int) := fun (v3, mo_laid, mo_size) =>
if 0 ≤ v1 ∧ v1 < 4 then
(if zR v3 ∧ zR (mo_acts v1.toNat) then
(if (mo_acts v1.toNat) ≤ v3 then
zlp (fX11_lays_92 mo_laid mo_size) zF (0, (zU mo_driven 0 0), mo_runFrom, mo_runTo, 0)
else
(fX11_readAs v1 v3 v2 mo_acts mo_kindOf).bind (fun r_21 =>
zlp (fX11_lays_29 rec7 v1 v3 r_21 mo_lengthOf) zF (0, mo_laid, mo_size)))
else none)
else none
def fX11_lays (v1 : Int) (v2 : Int) (mo_acts : Nat → Int) (mo_kindOf : Nat → Int) (mo_lengthOf : Nat → Int) (mo_laid : Nat → Int) (mo_driven : Nat → Int) (mo_runFrom : Nat → Int) (mo_runTo : Nat → Int) (mo_size : Int) (mo_runs : Int) : Option ((Nat → Int) × (Nat → Int) × (Nat → Int) × (Nat → Int) × Int × Int) :=
zlp (fX11_lays_7 v1 v2 mo_acts mo_kindOf mo_lengthOf mo_driven mo_runFrom mo_runTo) zF (0, mo_laid, 0)
def fX11_runLength (v1 : Int) (mo_runFrom : Nat → Int) (mo_runTo : Nat → Int) : Option (Int) :=
if 0 ≤ v1 ∧ v1 < 60 then
(if 0 ≤ v1 ∧ v1 < 60 then
(some ((mo_runTo v1.toNat) - (mo_runFrom v1.toNat)))
else none)
else none
def fX11_resets_27  : Option (Int) :=
some 1
def fX11_resets_31  : Option (Int) :=
some 0
def fX11_resets (v1 : Int) (mo_rules : Nat → Int) (mo_isParted : Int) : Option (Int) :=
if zR v1 ∧ zR (mo_rules 1) then
(if (mo_rules 1) ≤ v1 then
fX11_resets_27
else
if zR v1 ∧ zR (mo_rules 3) then
(if v1 < (mo_rules 3) then
fX11_resets_31
else
if zR mo_isParted then
(if mo_isParted = 0 then
fX11_resets_31
else
fX11_resets_27)
else none)
else none)
else none
def fX11_tells_112 (v1 : Int) (v2 : Int) (v3 : Int) (v4 : Int) (mo_foundAt : Nat → Int) (mo_foundRule : Nat → Int) (mo_foundMany : Nat → Int) (mo_found : Int) : Option ((Nat → Int) × (Nat → Int) × (Nat → Int) × Int) :=
if 0 ≤ v4 ∧ v4 < 400 then
(if 0 ≤ v4 ∧ v4 < 400 then
(if 0 ≤ v4 ∧ v4 < 400 then
(some ((zU mo_foundAt v4.toNat v1), (zU mo_foundRule v4.toNat v2), (zU mo_foundMany v4.toNat v3), (mo_found + 1)))
else none)
else none)
else none
def fX11_tells_55 (rec11 : Int × (Nat → Int) × (Nat → Int) × (Nat → Int) → Option ((Nat → Int) × (Nat → Int) × (Nat → Int) × Int)) (v4 : Int) (mo_foundAt : Nat → Int) (mo_foundRule : Nat → Int) (mo_foundMany : Nat → Int) : Option ((Nat → Int) × (Nat → Int) × (Nat → Int) × Int) :=
if 0 ≤ (v4 - 1) ∧ (v4 - 1) < 400 then
(if 0 ≤ v4 ∧ v4 < 400 then
(if 0 ≤ (v4 - 1) ∧ (v4 - 1) < 400 then
(if 0 ≤ v4 ∧ v4 < 400 then
(if 0 ≤ (v4 - 1) ∧ (v4 - 1) < 400 then
(if 0 ≤ v4 ∧ v4 < 400 then
(rec11 ((v4 - 1), (zU mo_foundAt v4.toNat (mo_foundAt (v4 - 1).toNat)), (zU mo_foundRule v4.toNat (mo_foundRule (v4 - 1).toNat)), (zU mo_foundMany v4.toNat (mo_foundMany (v4 - 1).toNat))))
else none)
else none)
else none)
else none)
else none)
else none
def fX11_tells_11 (v1 : Int) (v2 : Int) (v3 : Int) (mo_found : Int) (rec11 : Int × (Nat → Int) × (Nat → Int) × (Nat → Int) → Option ((Nat → Int) × (Nat → Int) × (Nat → Int) × Int)) : Int × (Nat → Int) × (Nat → Int) × (Nat → Int) → Option ((Nat → Int) × (Nat → Int) × (Nat → Int) × Int) := fun (v4, mo_foundAt, mo_foundRule, mo_foundMany) =>
if zR v4 then
(if v4 ≤ 0 then
fX11_tells_112 v1 v2 v3 v4 mo_foundAt mo_foundRule mo_foundMany mo_found
else
if 0 ≤ (v4 - 1) ∧ (v4 - 1) < 400 then
(if zR (mo_foundAt (v4 - 1).toNat) ∧ zR v1 then
(if v1 < (mo_foundAt (v4 - 1).toNat) then
fX11_tells_55 rec11 v4 mo_foundAt mo_foundRule mo_foundMany
else
if 0 ≤ (v4 - 1) ∧ (v4 - 1) < 400 then
(if zR (mo_foundAt (v4 - 1).toNat) ∧ zR v1 then
(if (mo_foundAt (v4 - 1).toNat) ≠ v1 then
fX11_tells_112 v1 v2 v3 v4 mo_foundAt mo_foundRule mo_foundMany mo_found
else
if 0 ≤ (v4 - 1) ∧ (v4 - 1) < 400 then
(if zR (mo_foundRule (v4 - 1).toNat) ∧ zR v2 then
(if (mo_foundRule (v4 - 1).toNat) ≤ v2 then
fX11_tells_112 v1 v2 v3 v4 mo_foundAt mo_foundRule mo_foundMany mo_found
else
fX11_tells_55 rec11 v4 mo_foundAt mo_foundRule mo_foundMany)
else none)
else none)
else none)
else none)
else none)
else none)
else none
def fX11_tells (v1 : Int) (v2 : Int) (v3 : Int) (mo_foundAt : Nat → Int) (mo_foundRule : Nat → Int) (mo_foundMany : Nat → Int) (mo_found : Int) : Option ((Nat → Int) × (Nat → Int) × (Nat → Int) × Int) :=
if zR v3 then
(if v3 ≠ 0 then
zlp (fX11_tells_11 v1 v2 v3 mo_found) zF (mo_found, mo_foundAt, mo_foundRule, mo_foundMany)
else
some (mo_foundAt, mo_foundRule, mo_foundMany, mo_found))
else none
def fX11_ruleOne_161 (rec19 : Int × Int × Int × Int × (Nat → Int) × (Nat → Int) × (Nat → Int) × Int × Int × Int → Option ((Nat → Int) × (Nat → Int) × (Nat → Int) × Int × Int × Int)) (v1 : Int) (v2 : Int) (v3 : Int) (v4 : Int) (mo_foundAt : Nat → Int) (mo_foundRule : Nat → Int) (mo_foundMany : Nat → Int) (mo_found : Int) (mo_counted : Int) (mo_isParted : Int) : Option ((Nat → Int) × (Nat → Int) × (Nat → Int) × Int × Int × Int) :=
rec19 (v1, v2, v3, (v4 + 1), mo_foundAt, mo_foundRule, mo_foundMany, mo_found, mo_counted, mo_isParted)
def fX11_ruleOne_157 (rec19 : Int × Int × Int × Int × (Nat → Int) × (Nat → Int) × (Nat → Int) × Int × Int × Int → Option ((Nat → Int) × (Nat → Int) × (Nat → Int) × Int × Int × Int)) (v1 : Int) (v2 : Int) (v3 : Int) (v4 : Int) (mo_foundAt : Nat → Int) (mo_foundRule : Nat → Int) (mo_foundMany : Nat → Int) (mo_found : Int) (mo_counted : Int) (mo_isParted : Int) : Option ((Nat → Int) × (Nat → Int) × (Nat → Int) × Int × Int × Int) :=
fX11_ruleOne_161 rec19 v1 v2 (v3 + 1) v4 mo_foundAt mo_foundRule mo_foundMany mo_found mo_counted mo_isParted
def fX11_ruleOne_77 (rec19 : Int × Int × Int × Int × (Nat → Int) × (Nat → Int) × (Nat → Int) × Int × Int × Int → Option ((Nat → Int) × (Nat → Int) × (Nat → Int) × Int × Int × Int)) (v1 : Int) (v2 : Int) (v3 : Int) (v4 : Int) (mo_rules : Nat → Int) (mo_runFrom : Nat → Int) (mo_runTo : Nat → Int) (mo_runs : Int) (mo_foundAt : Nat → Int) (mo_foundRule : Nat → Int) (mo_foundMany : Nat → Int) (mo_found : Int) (mo_counted : Int) (mo_isParted : Int) : Option ((Nat → Int) × (Nat → Int) × (Nat → Int) × Int × Int × Int) :=
if zR v3 ∧ zR mo_runs then
(if v3 = mo_runs then
fX11_ruleOne_161 rec19 v1 v2 v3 v4 mo_foundAt mo_foundRule mo_foundMany mo_found mo_counted mo_isParted
else
if 0 ≤ v3 ∧ v3 < 60 then
(if zR (mo_runTo v3.toNat) ∧ zR (v4 + 1) then
(if (mo_runTo v3.toNat) = (v4 + 1) then
(fX11_runLength v3 mo_runFrom mo_runTo).bind (fun r_103 =>
(fX11_resets r_103 mo_rules mo_isParted).bind (fun r_111 =>
if zR r_111 then
(if r_111 = 0 then
if zR r_103 ∧ zR (mo_rules 2) then
(if r_103 < (mo_rules 2) then
fX11_ruleOne_157 rec19 v1 v2 v3 v4 mo_foundAt mo_foundRule mo_foundMany mo_found mo_counted mo_isParted
else
fX11_ruleOne_157 rec19 v1 v2 v3 v4 mo_foundAt mo_foundRule mo_foundMany mo_found mo_counted 1)
else none
else
(fX11_tells v2 1 v1 mo_foundAt mo_foundRule mo_foundMany mo_found).bind (fun (mo_foundAt_121, mo_foundRule_121, mo_foundMany_121, mo_found_121) =>
fX11_ruleOne_157 rec19 0 (-1) v3 v4 mo_foundAt_121 mo_foundRule_121 mo_foundMany_121 mo_found_121 0 0))
else none))
else
fX11_ruleOne_161 rec19 v1 v2 v3 v4 mo_foundAt mo_foundRule mo_foundMany mo_found mo_counted mo_isParted)
else none)
else none)
else none
def fX11_ruleOne_76 (rec19 : Int × Int × Int × Int × (Nat → Int) × (Nat → Int) × (Nat → Int) × Int × Int × Int → Option ((Nat → Int) × (Nat → Int) × (Nat → Int) × Int × Int × Int)) (v1 : Int) (v3 : Int) (v4 : Int) (s0 : Int) (mo_rules : Nat → Int) (mo_runFrom : Nat → Int) (mo_runTo : Nat → Int) (mo_runs : Int) (mo_foundAt : Nat → Int) (mo_foundRule : Nat → Int) (mo_foundMany : Nat → Int) (mo_found : Int) (mo_counted : Int) (mo_isParted : Int) : Option ((Nat → Int) × (Nat → Int) × (Nat → Int) × Int × Int × Int) :=
fX11_ruleOne_77 rec19 v1 s0 v3 v4 mo_rules mo_runFrom mo_runTo mo_runs mo_foundAt mo_foundRule mo_foundMany mo_found mo_counted mo_isParted
def fX11_ruleOne_19 (mo_rules : Nat → Int) (mo_laid : Nat → Int) (mo_runFrom : Nat → Int) (mo_runTo : Nat → Int) (mo_size : Int) (mo_runs : Int) (rec19 : Int × Int × Int × Int × (Nat → Int) × (Nat → Int) × (Nat → Int) × Int × Int × Int → Option ((Nat → Int) × (Nat → Int) × (Nat → Int) × Int × Int × Int)) : Int × Int × Int × Int × (Nat → Int) × (Nat → Int) × (Nat → Int) × Int × Int × Int → Option ((Nat → Int) × (Nat → Int) × (Nat → Int) × Int × Int × Int) := fun (v1, v2, v3, v4, mo_foundAt, mo_foundRule, mo_foundMany, mo_found, mo_counted, mo_isParted) =>
if zR v4 ∧ zR mo_size then
(if mo_size ≤ v4 then
(fX11_tells v2 1 v1 mo_foundAt mo_foundRule mo_foundMany mo_found).bind (fun (mo_foundAt_171, mo_foundRule_171, mo_foundMany_171, mo_found_171) =>
some (mo_foundAt_171, mo_foundRule_171, mo_foundMany_171, mo_found_171, mo_counted, mo_isParted))
else
if 0 ≤ v4 ∧ v4 < 20160 then
(if zR (mo_laid v4.toNat) then
(if (mo_laid v4.toNat) ≠ 0 then
fX11_ruleOne_77 rec19 v1 v2 v3 v4 mo_rules mo_runFrom mo_runTo mo_runs mo_foundAt mo_foundRule mo_foundMany mo_found mo_counted mo_isParted
else
if zR (mo_counted + 1) ∧ zR (mo_rules 0) then
(if (mo_counted + 1) ≤ (mo_rules 0) then
fX11_ruleOne_77 rec19 v1 v2 v3 v4 mo_rules mo_runFrom mo_runTo mo_runs mo_foundAt mo_foundRule mo_foundMany mo_found (mo_counted + 1) mo_isParted
else
if zR v2 then
(if v2 ≠ (-1) then
fX11_ruleOne_76 rec19 (v1 + 1) v3 v4 v2 mo_rules mo_runFrom mo_runTo mo_runs mo_foundAt mo_foundRule mo_foundMany mo_found (mo_counted + 1) mo_isParted
else
fX11_ruleOne_76 rec19 (v1 + 1) v3 v4 v4 mo_rules mo_runFrom mo_runTo mo_runs mo_foundAt mo_foundRule mo_foundMany mo_found (mo_counted + 1) mo_isParted)
else none)
else none)
else none)
else none)
else none
def fX11_ruleOne  (mo_rules : Nat → Int) (mo_laid : Nat → Int) (mo_runFrom : Nat → Int) (mo_runTo : Nat → Int) (mo_size : Int) (mo_runs : Int) (mo_foundAt : Nat → Int) (mo_foundRule : Nat → Int) (mo_foundMany : Nat → Int) (mo_found : Int) (mo_counted : Int) (mo_isParted : Int) : Option ((Nat → Int) × (Nat → Int) × (Nat → Int) × Int × Int × Int) :=
zlp (fX11_ruleOne_19 mo_rules mo_laid mo_runFrom mo_runTo mo_size mo_runs) zF (0, (-1), 0, 0, mo_foundAt, mo_foundRule, mo_foundMany, mo_found, 0, 0)
def fX11_finds_77 (rec7 : Int × (Nat → Int) × Int → Option ((Nat → Int) × Int)) (v1 : Int) (mo_maybe : Nat → Int) (mo_maybes : Int) : Option ((Nat → Int) × Int) :=
rec7 ((v1 + 1), mo_maybe, mo_maybes)
def fX11_finds_7 (mo_rules : Nat → Int) (mo_runFrom : Nat → Int) (mo_runTo : Nat → Int) (mo_runs : Int) (rec7 : Int × (Nat → Int) × Int → Option ((Nat → Int) × Int)) : Int × (Nat → Int) × Int → Option ((Nat → Int) × Int) := fun (v1, mo_maybe, mo_maybes) =>
if zR v1 ∧ zR mo_runs then
(if mo_runs ≤ v1 then
some (mo_maybe, mo_maybes)
else
if zR mo_maybes then
(if 12 ≤ mo_maybes then
some (mo_maybe, mo_maybes)
else
(fX11_runLength v1 mo_runFrom mo_runTo).bind (fun r_26 =>
if zR r_26 ∧ zR (mo_rules 8) then
(if r_26 < (mo_rules 8) then
fX11_finds_77 rec7 v1 mo_maybe mo_maybes
else
(fX11_runLength v1 mo_runFrom mo_runTo).bind (fun r_41 =>
if zR r_41 ∧ zR (mo_rules 7) then
(if r_41 < (mo_rules 7) then
if 0 ≤ mo_maybes ∧ mo_maybes < 12 then
(fX11_finds_77 rec7 v1 (zU mo_maybe mo_maybes.toNat v1) (mo_maybes + 1))
else none
else
fX11_finds_77 rec7 v1 mo_maybe mo_maybes)
else none))
else none))
else none)
else none
def fX11_finds  (mo_rules : Nat → Int) (mo_runFrom : Nat → Int) (mo_runTo : Nat → Int) (mo_runs : Int) (mo_maybe : Nat → Int) (mo_maybes : Int) : Option ((Nat → Int) × Int) :=
zlp (fX11_finds_7 mo_rules mo_runFrom mo_runTo mo_runs) zF (0, mo_maybe, 0)
def fX11_isTaken_2 (v1 : Int) (v2 : Int) (mo_maybe : Nat → Int) (mo_maybes : Int) (rec2 : Int → Option (Int)) : Int → Option (Int) := fun v3 =>
if zR v3 ∧ zR mo_maybes then
(if mo_maybes ≤ v3 then
some 0
else
if 0 ≤ v3 ∧ v3 < 12 then
(if zR (mo_maybe v3.toNat) ∧ zR v1 then
(if (mo_maybe v3.toNat) ≠ v1 then
rec2 (v3 + 1)
else
if zR (zand (zshr v2 v3) 1) then
(if (zand (zshr v2 v3) 1) ≠ 1 then
some 0
else
some 1)
else none)
else none)
else none)
else none
def fX11_isTaken (v1 : Int) (v2 : Int) (mo_maybe : Nat → Int) (mo_maybes : Int) : Option (Int) :=
zlp (fX11_isTaken_2 v1 v2 mo_maybe mo_maybes) zF 0
def fX11_parts_96 (rec9 : Int × Int × (Nat → Int) × (Nat → Int) × (Nat → Int) × Int → Option ((Nat → Int) × (Nat → Int) × (Nat → Int) × Int)) (v2 : Int) (v3 : Int) (mo_dayFrom : Nat → Int) (mo_dayTo : Nat → Int) (mo_dayRun : Nat → Int) (mo_days : Int) : Option ((Nat → Int) × (Nat → Int) × (Nat → Int) × Int) :=
rec9 (v2, (v3 + 1), mo_dayFrom, mo_dayTo, mo_dayRun, mo_days)
def fX11_parts_44 (rec9 : Int × Int × (Nat → Int) × (Nat → Int) × (Nat → Int) × Int → Option ((Nat → Int) × (Nat → Int) × (Nat → Int) × Int)) (v2 : Int) (v3 : Int) (mo_runTo : Nat → Int) (mo_dayFrom : Nat → Int) (mo_dayTo : Nat → Int) (mo_dayRun : Nat → Int) (mo_days : Int) : Option ((Nat → Int) × (Nat → Int) × (Nat → Int) × Int) :=
if 0 ≤ mo_days ∧ mo_days < 62 then
(if 0 ≤ v3 ∧ v3 < 60 then
(if 0 ≤ mo_days ∧ mo_days < 62 then
(if 0 ≤ mo_days ∧ mo_days < 62 then
(if 0 ≤ v3 ∧ v3 < 60 then
(fX11_parts_96 rec9 (mo_runTo v3.toNat) v3 (zU mo_dayFrom mo_days.toNat v2) (zU mo_dayTo mo_days.toNat (mo_runTo v3.toNat)) (zU mo_dayRun mo_days.toNat v3) (mo_days + 1))
else none)
else none)
else none)
else none)
else none
def fX11_parts_9 (v1 : Int) (mo_rules : Nat → Int) (mo_runFrom : Nat → Int) (mo_runTo : Nat → Int) (mo_size : Int) (mo_runs : Int) (mo_maybe : Nat → Int) (mo_maybes : Int) (rec9 : Int × Int × (Nat → Int) × (Nat → Int) × (Nat → Int) × Int → Option ((Nat → Int) × (Nat → Int) × (Nat → Int) × Int)) : Int × Int × (Nat → Int) × (Nat → Int) × (Nat → Int) × Int → Option ((Nat → Int) × (Nat → Int) × (Nat → Int) × Int) := fun (v2, v3, mo_dayFrom, mo_dayTo, mo_dayRun, mo_days) =>
if zR v3 ∧ zR mo_runs then
(if mo_runs ≤ v3 then
if zR v2 ∧ zR mo_size then
(if v2 ≠ mo_size then
if 0 ≤ mo_days ∧ mo_days < 62 then
(if 0 ≤ mo_days ∧ mo_days < 62 then
(if 0 ≤ mo_days ∧ mo_days < 62 then
(some ((zU mo_dayFrom mo_days.toNat v2), (zU mo_dayTo mo_days.toNat mo_size), (zU mo_dayRun mo_days.toNat (-1)), (mo_days + 1)))
else none)
else none)
else none
else
some (mo_dayFrom, mo_dayTo, mo_dayRun, mo_days))
else none
else
(fX11_runLength v3 mo_runFrom mo_runTo).bind (fun r_19 =>
if zR r_19 ∧ zR (mo_rules 7) then
(if (mo_rules 7) ≤ r_19 then
fX11_parts_44 rec9 v2 v3 mo_runTo mo_dayFrom mo_dayTo mo_dayRun mo_days
else
(fX11_isTaken v3 v1 mo_maybe mo_maybes).bind (fun r_35 =>
if zR r_35 then
(if r_35 ≠ 0 then
fX11_parts_44 rec9 v2 v3 mo_runTo mo_dayFrom mo_dayTo mo_dayRun mo_days
else
fX11_parts_96 rec9 v2 v3 mo_dayFrom mo_dayTo mo_dayRun mo_days)
else none))
else none))
else none
def fX11_parts (v1 : Int) (mo_rules : Nat → Int) (mo_runFrom : Nat → Int) (mo_runTo : Nat → Int) (mo_size : Int) (mo_runs : Int) (mo_maybe : Nat → Int) (mo_dayFrom : Nat → Int) (mo_dayTo : Nat → Int) (mo_dayRun : Nat → Int) (mo_maybes : Int) (mo_days : Int) : Option ((Nat → Int) × (Nat → Int) × (Nat → Int) × Int) :=
zlp (fX11_parts_9 v1 mo_rules mo_runFrom mo_runTo mo_size mo_runs mo_maybe mo_maybes) zF (0, 0, mo_dayFrom, mo_dayTo, mo_dayRun, 0)
def fX11_driveIn (v1 : Int) (v2 : Int) (mo_driven : Nat → Int) : Option (Int) :=
if 0 ≤ v2 ∧ v2 < 20161 then
(if 0 ≤ v1 ∧ v1 < 20161 then
(some ((mo_driven v2.toNat) - (mo_driven v1.toNat)))
else none)
else none
def fX11_overOf_29 (s0 : Int) (s2 : Int) (mo_rules : Nat → Int) : Option (Int) :=
if 0 ≤ s2 ∧ s2 < 11 then
(if zR (s0 - (mo_rules s2.toNat)) then
(if (s0 - (mo_rules s2.toNat)) ≤ 0 then
some 0
else
some (s0 - (mo_rules s2.toNat)))
else none)
else none
def fX11_overOf (v1 : Int) (v2 : Int) (mo_rules : Nat → Int) (mo_driven : Nat → Int) (mo_dayFrom : Nat → Int) (mo_dayTo : Nat → Int) : Option (Int) :=
if 0 ≤ v1 ∧ v1 < 62 then
(if 0 ≤ v1 ∧ v1 < 62 then
((fX11_driveIn (mo_dayFrom v1.toNat) (mo_dayTo v1.toNat) mo_driven).bind (fun r_13 =>
if zR v2 then
(if v2 = 0 then
fX11_overOf_29 r_13 4 mo_rules
else
fX11_overOf_29 r_13 5 mo_rules)
else none))
else none)
else none
def fX11_extendsDays_181 (rec30 : Int × (Nat → Int) × Int → Option ((Nat → Int) × Int)) (v1 : Int) (mo_isLonger : Nat → Int) (mo_longer : Int) : Option ((Nat → Int) × Int) :=
rec30 ((v1 + 1), mo_isLonger, mo_longer)
def fX11_extendsDays_175 (rec39 : Int × Int × (Nat → Int) × Int → Option ((Nat → Int) × Int)) (v2 : Int) (v3 : Int) (mo_isLonger : Nat → Int) (mo_longer : Int) : Option ((Nat → Int) × Int) :=
rec39 (v2, (v3 + 1), mo_isLonger, mo_longer)
def fX11_extendsDays_149 (rec39 : Int × Int × (Nat → Int) × Int → Option ((Nat → Int) × Int)) (v3 : Int) (v4 : Int) (s0 : Int) (mo_isLonger : Nat → Int) (mo_longer : Int) : Option ((Nat → Int) × Int) :=
if zR s0 then
(if s0 ≠ 0 then
if 0 ≤ v4 ∧ v4 < 62 then
(fX11_extendsDays_175 rec39 s0 v3 (zU mo_isLonger v4.toNat 1) (mo_longer + 1))
else none
else
fX11_extendsDays_175 rec39 s0 v3 mo_isLonger mo_longer)
else none
def fX11_extendsDays_132 (rec63 : Int × Int × Int → Option ((Nat → Int) × Int)) (v4 : Int) (v5 : Int) (v6 : Int) : Option ((Nat → Int) × Int) :=
rec63 (v4, v5, (v6 + 1))
def fX11_extendsDays_63 (rec39 : Int × Int × (Nat → Int) × Int → Option ((Nat → Int) × Int)) (v1 : Int) (v3 : Int) (mo_rules : Nat → Int) (mo_driven : Nat → Int) (mo_dayFrom : Nat → Int) (mo_dayTo : Nat → Int) (mo_isLonger : Nat → Int) (mo_days : Int) (mo_longer : Int) (rec63 : Int × Int × Int → Option ((Nat → Int) × Int)) : Int × Int × Int → Option ((Nat → Int) × Int) := fun (v4, v5, v6) =>
if zR v6 ∧ zR mo_days then
(if mo_days ≤ v6 then
if zR v4 then
(if v4 = (-1) then
fX11_extendsDays_149 rec39 v3 v4 0 mo_isLonger mo_longer
else
fX11_extendsDays_149 rec39 v3 v4 1 mo_isLonger mo_longer)
else none
else
(fX11_overOf v6 0 mo_rules mo_driven mo_dayFrom mo_dayTo).bind (fun r_76 =>
(fX11_overOf v6 1 mo_rules mo_driven mo_dayFrom mo_dayTo).bind (fun r_83 =>
if 0 ≤ v6 ∧ v6 < 62 then
(if zR (mo_isLonger v6.toNat) then
(if (mo_isLonger v6.toNat) ≠ 0 then
fX11_extendsDays_132 rec63 v4 v5 v6
else
if 0 ≤ v6 ∧ v6 < 62 then
(if zR (mo_dayFrom v6.toNat) then
(if zR (Int.tdiv (mo_dayFrom v6.toNat) 10080) ∧ zR v1 then
(if (Int.tdiv (mo_dayFrom v6.toNat) 10080) ≠ v1 then
fX11_extendsDays_132 rec63 v4 v5 v6
else
if zR (r_76 - r_83) ∧ zR v5 then
(if v5 < (r_76 - r_83) then
fX11_extendsDays_132 rec63 v6 (r_76 - r_83) v6
else
fX11_extendsDays_132 rec63 v4 v5 v6)
else none)
else none)
else none)
else none)
else none)
else none)))
else none
def fX11_extendsDays_39 (rec30 : Int × (Nat → Int) × Int → Option ((Nat → Int) × Int)) (v1 : Int) (mo_rules : Nat → Int) (mo_driven : Nat → Int) (mo_dayFrom : Nat → Int) (mo_dayTo : Nat → Int) (mo_days : Int) (rec39 : Int × Int × (Nat → Int) × Int → Option ((Nat → Int) × Int)) : Int × Int × (Nat → Int) × Int → Option ((Nat → Int) × Int) := fun (v2, v3, mo_isLonger, mo_longer) =>
if zR v3 ∧ zR (mo_rules 6) then
(if (mo_rules 6) ≤ v3 then
fX11_extendsDays_181 rec30 v1 mo_isLonger mo_longer
else
if zR v2 then
(if v2 = 0 then
fX11_extendsDays_181 rec30 v1 mo_isLonger mo_longer
else
zlp (fX11_extendsDays_63 rec39 v1 v3 mo_rules mo_driven mo_dayFrom mo_dayTo mo_isLonger mo_days mo_longer) zF ((-1), 0, 0))
else none)
else none
def fX11_extendsDays_30 (mo_rules : Nat → Int) (mo_driven : Nat → Int) (mo_dayFrom : Nat → Int) (mo_dayTo : Nat → Int) (mo_days : Int) (rec30 : Int × (Nat → Int) × Int → Option ((Nat → Int) × Int)) : Int × (Nat → Int) × Int → Option ((Nat → Int) × Int) := fun (v1, mo_isLonger, mo_longer) =>
if zR v1 then
(if 2 ≤ v1 then
some (mo_isLonger, mo_longer)
else
zlp (fX11_extendsDays_39 rec30 v1 mo_rules mo_driven mo_dayFrom mo_dayTo mo_days) zF (1, 0, mo_isLonger, mo_longer))
else none
def fX11_extendsDays_7 (mo_rules : Nat → Int) (mo_driven : Nat → Int) (mo_dayFrom : Nat → Int) (mo_dayTo : Nat → Int) (mo_days : Int) (mo_longer : Int) (rec7 : Int × (Nat → Int) → Option ((Nat → Int) × Int)) : Int × (Nat → Int) → Option ((Nat → Int) × Int) := fun (v1, mo_isLonger) =>
if zR v1 ∧ zR mo_days then
(if mo_days ≤ v1 then
zlp (fX11_extendsDays_30 mo_rules mo_driven mo_dayFrom mo_dayTo mo_days) zF (0, mo_isLonger, mo_longer)
else
if 0 ≤ v1 ∧ v1 < 62 then
(rec7 ((v1 + 1), (zU mo_isLonger v1.toNat 0)))
else none)
else none
def fX11_extendsDays  (mo_rules : Nat → Int) (mo_driven : Nat → Int) (mo_dayFrom : Nat → Int) (mo_dayTo : Nat → Int) (mo_isLonger : Nat → Int) (mo_days : Int) (mo_longer : Int) : Option ((Nat → Int) × Int) :=
zlp (fX11_extendsDays_7 mo_rules mo_driven mo_dayFrom mo_dayTo mo_days 0) zF (0, mo_isLonger)
def fX11_lateOf_58 (v1 : Int) (s0 : Int) (mo_dayFrom : Nat → Int) : Option (Int) :=
if 0 ≤ v1 ∧ v1 < 62 then
(if zR ((s0 - (mo_dayFrom v1.toNat)) - 1440) then
(if ((s0 - (mo_dayFrom v1.toNat)) - 1440) ≤ 0 then
some 0
else
some ((s0 - (mo_dayFrom v1.toNat)) - 1440))
else none)
else none
def fX11_lateOf_57 (v1 : Int) (s0 : Int) (s1 : Int) (mo_dayFrom : Nat → Int) : Option (Int) :=
fX11_lateOf_58 v1 (s0 + s1) mo_dayFrom
def fX11_lateOf (v1 : Int) (mo_rules : Nat → Int) (mo_runFrom : Nat → Int) (mo_runTo : Nat → Int) (mo_size : Int) (mo_dayFrom : Nat → Int) (mo_dayRun : Nat → Int) : Option (Int) :=
if 0 ≤ v1 ∧ v1 < 62 then
(if zR (mo_dayRun v1.toNat) then
(if (mo_dayRun v1.toNat) ≠ (-1) then
if 0 ≤ (mo_dayRun v1.toNat) ∧ (mo_dayRun v1.toNat) < 60 then
((fX11_runLength (mo_dayRun v1.toNat) mo_runFrom mo_runTo).bind (fun r_27 =>
if zR r_27 ∧ zR (mo_rules 7) then
(if r_27 < (mo_rules 7) then
fX11_lateOf_57 v1 (mo_runFrom (mo_dayRun v1.toNat).toNat) (mo_rules 8) mo_dayFrom
else
fX11_lateOf_57 v1 (mo_runFrom (mo_dayRun v1.toNat).toNat) (mo_rules 7) mo_dayFrom)
else none))
else none
else
fX11_lateOf_58 v1 mo_size mo_dayFrom)
else none)
else none
def fX11_reckons_16 (mo_rules : Nat → Int) (mo_driven : Nat → Int) (mo_runFrom : Nat → Int) (mo_runTo : Nat → Int) (mo_size : Int) (mo_dayFrom : Nat → Int) (mo_dayTo : Nat → Int) (mo_dayRun : Nat → Int) (mo_isLonger : Nat → Int) (mo_days : Int) (mo_longer : Int) (rec16 : Int × Int → Option ((Nat → Int) × (Nat → Int) × (Nat → Int) × (Nat → Int) × Int × Int × Int)) : Int × Int → Option ((Nat → Int) × (Nat → Int) × (Nat → Int) × (Nat → Int) × Int × Int × Int) := fun (v2, mo_over2) =>
if zR v2 ∧ zR mo_days then
(if mo_days ≤ v2 then
some (mo_dayFrom, mo_dayTo, mo_dayRun, mo_isLonger, mo_days, mo_over2, mo_longer)
else
if 0 ≤ v2 ∧ v2 < 62 then
((fX11_overOf v2 (mo_isLonger v2.toNat) mo_rules mo_driven mo_dayFrom mo_dayTo).bind (fun r_37 =>
(fX11_lateOf v2 mo_rules mo_runFrom mo_runTo mo_size mo_dayFrom mo_dayRun).bind (fun r_43 =>
rec16 ((v2 + 1), ((mo_over2 + r_37) + r_43)))))
else none)
else none
def fX11_reckons (v1 : Int) (mo_rules : Nat → Int) (mo_driven : Nat → Int) (mo_runFrom : Nat → Int) (mo_runTo : Nat → Int) (mo_size : Int) (mo_runs : Int) (mo_maybe : Nat → Int) (mo_dayFrom : Nat → Int) (mo_dayTo : Nat → Int) (mo_dayRun : Nat → Int) (mo_isLonger : Nat → Int) (mo_maybes : Int) (mo_days : Int) (mo_over2 : Int) (mo_longer : Int) : Option ((Nat → Int) × (Nat → Int) × (Nat → Int) × (Nat → Int) × Int × Int × Int) :=
(fX11_parts v1 mo_rules mo_runFrom mo_runTo mo_size mo_runs mo_maybe mo_dayFrom mo_dayTo mo_dayRun mo_maybes mo_days).bind (fun (mo_dayFrom_2, mo_dayTo_2, mo_dayRun_2, mo_days_2) =>
(fX11_extendsDays mo_rules mo_driven mo_dayFrom_2 mo_dayTo_2 mo_isLonger mo_days_2 mo_longer).bind (fun (mo_isLonger_6, mo_longer_6) =>
zlp (fX11_reckons_16 mo_rules mo_driven mo_runFrom mo_runTo mo_size mo_dayFrom_2 mo_dayTo_2 mo_dayRun_2 mo_isLonger_6 mo_days_2 mo_longer_6) zF (0, 0)))
def fX11_mayBe_59 (rec12 : Int × Int → Option (Int)) (v4 : Int) (s0 : Int) (s1 : Int) : Option (Int) :=
rec12 ((s0 + s1), (v4 + 1))
def fX11_mayBe_58 (rec12 : Int × Int → Option (Int)) (v4 : Int) (s0 : Int) : Option (Int) :=
fX11_mayBe_59 rec12 v4 s0 0
def fX11_mayBe_12 (rec2 : Int → Option (Int)) (v1 : Int) (v2 : Int) (mo_rules : Nat → Int) (mo_runTo : Nat → Int) (mo_maybe : Nat → Int) (mo_maybes : Int) (rec12 : Int × Int → Option (Int)) : Int × Int → Option (Int) := fun (v3, v4) =>
if zR v4 ∧ zR mo_maybes then
(if mo_maybes ≤ v4 then
if zR v3 ∧ zR (mo_rules 9) then
(if v3 ≤ (mo_rules 9) then
rec2 (v2 + 1)
else
some 0)
else none
else
if zR (zand (zshr v1 v4) 1) then
(if (zand (zshr v1 v4) 1) ≠ 1 then
fX11_mayBe_58 rec12 v4 v3
else
if 0 ≤ v4 ∧ v4 < 12 then
(if 0 ≤ (mo_maybe v4.toNat) ∧ (mo_maybe v4.toNat) < 60 then
(if zR ((mo_runTo (mo_maybe v4.toNat).toNat) - 1) then
(if zR (Int.tdiv ((mo_runTo (mo_maybe v4.toNat).toNat) - 1) 10080) ∧ zR v2 then
(if (Int.tdiv ((mo_runTo (mo_maybe v4.toNat).toNat) - 1) 10080) ≠ v2 then
fX11_mayBe_58 rec12 v4 v3
else
fX11_mayBe_59 rec12 v4 v3 1)
else none)
else none)
else none)
else none)
else none)
else none
def fX11_mayBe_2 (v1 : Int) (mo_rules : Nat → Int) (mo_runTo : Nat → Int) (mo_maybe : Nat → Int) (mo_maybes : Int) (rec2 : Int → Option (Int)) : Int → Option (Int) := fun v2 =>
if zR v2 then
(if 2 ≤ v2 then
some 1
else
zlp (fX11_mayBe_12 rec2 v1 v2 mo_rules mo_runTo mo_maybe mo_maybes) zF (0, 0))
else none
def fX11_mayBe (v1 : Int) (mo_rules : Nat → Int) (mo_runTo : Nat → Int) (mo_maybe : Nat → Int) (mo_maybes : Int) : Option (Int) :=
zlp (fX11_mayBe_2 v1 mo_rules mo_runTo mo_maybe mo_maybes) zF 0
def fX11_isEarlier_47  : Option (Int) :=
some 0
def fX11_isEarlier_28 (v0 : Int) (v2 : Int) : Option (Int) :=
if zR v2 then
(if 12 ≤ v2 then
fX11_isEarlier_47
else
if zR (zand (zshr v0 v2) 1) then
(if (zand (zshr v0 v2) 1) ≠ 1 then
fX11_isEarlier_47
else
some 1)
else none)
else none
def fX11_isEarlier_2 (v0 : Int) (v1 : Int) (rec2 : Int → Option (Int)) : Int → Option (Int) := fun v2 =>
if zR v2 then
(if 12 ≤ v2 then
fX11_isEarlier_28 v0 v2
else
if zR (zand (zshr v0 v2) 1) ∧ zR (zand (zshr v1 v2) 1) then
(if (zand (zshr v0 v2) 1) ≠ (zand (zshr v1 v2) 1) then
fX11_isEarlier_28 v0 v2
else
rec2 (v2 + 1))
else none)
else none
def fX11_isEarlier (v0 : Int) (v1 : Int)  : Option (Int) :=
zlp (fX11_isEarlier_2 v0 v1) zF 0
def fX11_chooses_171 (rec24 : Int × Int × Int × Int × (Nat → Int) × (Nat → Int) × (Nat → Int) × (Nat → Int) × Int × Int × Int → Option ((Nat → Int) × (Nat → Int) × (Nat → Int) × (Nat → Int) × (Nat → Int) × Int × Int × Int × Int)) (v1 : Int) (v2 : Int) (v3 : Int) (v4 : Int) (mo_dayFrom : Nat → Int) (mo_dayTo : Nat → Int) (mo_dayRun : Nat → Int) (mo_isLonger : Nat → Int) (mo_days : Int) (mo_over2 : Int) (mo_longer : Int) : Option ((Nat → Int) × (Nat → Int) × (Nat → Int) × (Nat → Int) × (Nat → Int) × Int × Int × Int × Int) :=
rec24 (v1, v2, v3, (v4 + 1), mo_dayFrom, mo_dayTo, mo_dayRun, mo_isLonger, mo_days, mo_over2, mo_longer)
def fX11_chooses_150 (rec24 : Int × Int × Int × Int × (Nat → Int) × (Nat → Int) × (Nat → Int) × (Nat → Int) × Int × Int × Int → Option ((Nat → Int) × (Nat → Int) × (Nat → Int) × (Nat → Int) × (Nat → Int) × Int × Int × Int × Int)) (v1 : Int) (v2 : Int) (v3 : Int) (v4 : Int) (v5 : Int) (mo_dayFrom : Nat → Int) (mo_dayTo : Nat → Int) (mo_dayRun : Nat → Int) (mo_isLonger : Nat → Int) (mo_days : Int) (mo_over2 : Int) (mo_longer : Int) : Option ((Nat → Int) × (Nat → Int) × (Nat → Int) × (Nat → Int) × (Nat → Int) × Int × Int × Int × Int) :=
if zR v5 then
(if v5 ≠ 0 then
fX11_chooses_171 rec24 v4 mo_over2 mo_longer v4 mo_dayFrom mo_dayTo mo_dayRun mo_isLonger mo_days mo_over2 mo_longer
else
fX11_chooses_171 rec24 v1 v2 v3 v4 mo_dayFrom mo_dayTo mo_dayRun mo_isLonger mo_days mo_over2 mo_longer)
else none
def fX11_chooses_105 (rec24 : Int × Int × Int × Int × (Nat → Int) × (Nat → Int) × (Nat → Int) × (Nat → Int) × Int × Int × Int → Option ((Nat → Int) × (Nat → Int) × (Nat → Int) × (Nat → Int) × (Nat → Int) × Int × Int × Int × Int)) (v1 : Int) (v2 : Int) (v3 : Int) (v4 : Int) (s0 : Int) (mo_dayFrom : Nat → Int) (mo_dayTo : Nat → Int) (mo_dayRun : Nat → Int) (mo_isLonger : Nat → Int) (mo_days : Int) (mo_over2 : Int) (mo_longer : Int) : Option ((Nat → Int) × (Nat → Int) × (Nat → Int) × (Nat → Int) × (Nat → Int) × Int × Int × Int × Int) :=
fX11_chooses_150 rec24 v1 v2 v3 v4 s0 mo_dayFrom mo_dayTo mo_dayRun mo_isLonger mo_days mo_over2 mo_longer
def fX11_chooses_148 (rec24 : Int × Int × Int × Int × (Nat → Int) × (Nat → Int) × (Nat → Int) × (Nat → Int) × Int × Int × Int → Option ((Nat → Int) × (Nat → Int) × (Nat → Int) × (Nat → Int) × (Nat → Int) × Int × Int × Int × Int)) (v1 : Int) (v2 : Int) (v3 : Int) (v4 : Int) (s0 : Int) (mo_dayFrom : Nat → Int) (mo_dayTo : Nat → Int) (mo_dayRun : Nat → Int) (mo_isLonger : Nat → Int) (mo_days : Int) (mo_over2 : Int) (mo_longer : Int) : Option ((Nat → Int) × (Nat → Int) × (Nat → Int) × (Nat → Int) × (Nat → Int) × Int × Int × Int × Int) :=
fX11_chooses_150 rec24 v1 v2 v3 v4 s0 mo_dayFrom mo_dayTo mo_dayRun mo_isLonger mo_days mo_over2 mo_longer
def fX11_chooses_110 (rec24 : Int × Int × Int × Int × (Nat → Int) × (Nat → Int) × (Nat → Int) × (Nat → Int) × Int × Int × Int → Option ((Nat → Int) × (Nat → Int) × (Nat → Int) × (Nat → Int) × (Nat → Int) × Int × Int × Int × Int)) (v1 : Int) (v2 : Int) (v3 : Int) (v4 : Int) (v5 : Int) (mo_dayFrom : Nat → Int) (mo_dayTo : Nat → Int) (mo_dayRun : Nat → Int) (mo_isLonger : Nat → Int) (mo_days : Int) (mo_over2 : Int) (mo_longer : Int) : Option ((Nat → Int) × (Nat → Int) × (Nat → Int) × (Nat → Int) × (Nat → Int) × Int × Int × Int × Int) :=
if zR mo_over2 ∧ zR v2 then
(if mo_over2 ≠ v2 then
fX11_chooses_150 rec24 v1 v2 v3 v4 v5 mo_dayFrom mo_dayTo mo_dayRun mo_isLonger mo_days mo_over2 mo_longer
else
if zR mo_longer ∧ zR v3 then
(if mo_longer = v3 then
(fX11_isEarlier v4 v1).bind (fun r_145 =>
fX11_chooses_148 rec24 v1 v2 v3 v4 r_145 mo_dayFrom mo_dayTo mo_dayRun mo_isLonger mo_days mo_over2 mo_longer)
else
if zR mo_longer ∧ zR v3 then
(if v3 ≤ mo_longer then
fX11_chooses_148 rec24 v1 v2 v3 v4 0 mo_dayFrom mo_dayTo mo_dayRun mo_isLonger mo_days mo_over2 mo_longer
else
fX11_chooses_148 rec24 v1 v2 v3 v4 1 mo_dayFrom mo_dayTo mo_dayRun mo_isLonger mo_days mo_over2 mo_longer)
else none)
else none)
else none
def fX11_chooses_66 (rec24 : Int × Int × Int × Int × (Nat → Int) × (Nat → Int) × (Nat → Int) × (Nat → Int) × Int × Int × Int → Option ((Nat → Int) × (Nat → Int) × (Nat → Int) × (Nat → Int) × (Nat → Int) × Int × Int × Int × Int)) (v1 : Int) (v2 : Int) (v3 : Int) (v4 : Int) (s0 : Int) (mo_dayFrom : Nat → Int) (mo_dayTo : Nat → Int) (mo_dayRun : Nat → Int) (mo_isLonger : Nat → Int) (mo_days : Int) (mo_over2 : Int) (mo_longer : Int) : Option ((Nat → Int) × (Nat → Int) × (Nat → Int) × (Nat → Int) × (Nat → Int) × Int × Int × Int × Int) :=
if zR mo_over2 ∧ zR v2 then
(if mo_over2 ≠ v2 then
fX11_chooses_110 rec24 v1 v2 v3 v4 s0 mo_dayFrom mo_dayTo mo_dayRun mo_isLonger mo_days mo_over2 mo_longer
else
(fX11_bits v4).bind (fun r_78 =>
(fX11_bits v1).bind (fun r_82 =>
if zR r_78 ∧ zR r_82 then
(if r_78 = r_82 then
fX11_chooses_110 rec24 v1 v2 v3 v4 s0 mo_dayFrom mo_dayTo mo_dayRun mo_isLonger mo_days mo_over2 mo_longer
else
(fX11_bits v4).bind (fun r_90 =>
(fX11_bits v1).bind (fun r_94 =>
if zR r_90 ∧ zR r_94 then
(if r_94 ≤ r_90 then
fX11_chooses_105 rec24 v1 v2 v3 v4 0 mo_dayFrom mo_dayTo mo_dayRun mo_isLonger mo_days mo_over2 mo_longer
else
fX11_chooses_105 rec24 v1 v2 v3 v4 1 mo_dayFrom mo_dayTo mo_dayRun mo_isLonger mo_days mo_over2 mo_longer)
else none)))
else none)))
else none
def fX11_chooses_24 (mo_rules : Nat → Int) (mo_driven : Nat → Int) (mo_runFrom : Nat → Int) (mo_runTo : Nat → Int) (mo_size : Int) (mo_runs : Int) (mo_maybe : Nat → Int) (mo_maybes : Int) (rec24 : Int × Int × Int × Int × (Nat → Int) × (Nat → Int) × (Nat → Int) × (Nat → Int) × Int × Int × Int → Option ((Nat → Int) × (Nat → Int) × (Nat → Int) × (Nat → Int) × (Nat → Int) × Int × Int × Int × Int)) : Int × Int × Int × Int × (Nat → Int) × (Nat → Int) × (Nat → Int) × (Nat → Int) × Int × Int × Int → Option ((Nat → Int) × (Nat → Int) × (Nat → Int) × (Nat → Int) × (Nat → Int) × Int × Int × Int × Int) := fun (v1, v2, v3, v4, mo_dayFrom, mo_dayTo, mo_dayRun, mo_isLonger, mo_days, mo_over2, mo_longer) =>
if zR v4 ∧ zR (zshl 1 mo_maybes) then
(if (zshl 1 mo_maybes) ≤ v4 then
(fX11_reckons v1 mo_rules mo_driven mo_runFrom mo_runTo mo_size mo_runs mo_maybe mo_dayFrom mo_dayTo mo_dayRun mo_isLonger mo_maybes mo_days mo_over2 mo_longer).bind (fun (mo_dayFrom_179, mo_dayTo_179, mo_dayRun_179, mo_isLonger_179, mo_days_179, mo_over2_179, mo_longer_179) =>
some (mo_maybe, mo_dayFrom_179, mo_dayTo_179, mo_dayRun_179, mo_isLonger_179, mo_maybes, mo_days_179, mo_over2_179, mo_longer_179))
else
(fX11_mayBe v4 mo_rules mo_runTo mo_maybe mo_maybes).bind (fun r_38 =>
if zR r_38 then
(if r_38 ≠ 0 then
(fX11_reckons v4 mo_rules mo_driven mo_runFrom mo_runTo mo_size mo_runs mo_maybe mo_dayFrom mo_dayTo mo_dayRun mo_isLonger mo_maybes mo_days mo_over2 mo_longer).bind (fun (mo_dayFrom_50, mo_dayTo_50, mo_dayRun_50, mo_isLonger_50, mo_days_50, mo_over2_50, mo_longer_50) =>
if zR mo_over2_50 ∧ zR v2 then
(if v2 ≤ mo_over2_50 then
fX11_chooses_66 rec24 v1 v2 v3 v4 0 mo_dayFrom_50 mo_dayTo_50 mo_dayRun_50 mo_isLonger_50 mo_days_50 mo_over2_50 mo_longer_50
else
fX11_chooses_66 rec24 v1 v2 v3 v4 1 mo_dayFrom_50 mo_dayTo_50 mo_dayRun_50 mo_isLonger_50 mo_days_50 mo_over2_50 mo_longer_50)
else none)
else
fX11_chooses_171 rec24 v1 v2 v3 v4 mo_dayFrom mo_dayTo mo_dayRun mo_isLonger mo_days mo_over2 mo_longer)
else none))
else none
def fX11_chooses  (mo_rules : Nat → Int) (mo_driven : Nat → Int) (mo_runFrom : Nat → Int) (mo_runTo : Nat → Int) (mo_size : Int) (mo_runs : Int) (mo_maybe : Nat → Int) (mo_dayFrom : Nat → Int) (mo_dayTo : Nat → Int) (mo_dayRun : Nat → Int) (mo_isLonger : Nat → Int) (mo_maybes : Int) (mo_days : Int) (mo_over2 : Int) (mo_longer : Int) : Option ((Nat → Int) × (Nat → Int) × (Nat → Int) × (Nat → Int) × (Nat → Int) × Int × Int × Int × Int) :=
(fX11_finds mo_rules mo_runFrom mo_runTo mo_runs mo_maybe mo_maybes).bind (fun (mo_maybe_1, mo_maybes_1) =>
(fX11_reckons 0 mo_rules mo_driven mo_runFrom mo_runTo mo_size mo_runs mo_maybe_1 mo_dayFrom mo_dayTo mo_dayRun mo_isLonger mo_maybes_1 mo_days mo_over2 mo_longer).bind (fun (mo_dayFrom_8, mo_dayTo_8, mo_dayRun_8, mo_isLonger_8, mo_days_8, mo_over2_8, mo_longer_8) =>
zlp (fX11_chooses_24 mo_rules mo_driven mo_runFrom mo_runTo mo_size mo_runs mo_maybe_1 mo_maybes_1) zF (0, mo_over2_8, mo_longer_8, 1, mo_dayFrom_8, mo_dayTo_8, mo_dayRun_8, mo_isLonger_8, mo_days_8, mo_over2_8, mo_longer_8)))
def fX11_goesAbove_2 (v1 : Int) (v2 : Int) (mo_driven : Nat → Int) (rec2 : Int → Option (Int)) : Int → Option (Int) := fun v3 =>
if 0 ≤ (v3 + 1) ∧ (v3 + 1) < 20161 then
(if 0 ≤ v1 ∧ v1 < 20161 then
(if zR ((mo_driven (v3 + 1).toNat) - (mo_driven v1.toNat)) ∧ zR v2 then
(if v2 < ((mo_driven (v3 + 1).toNat) - (mo_driven v1.toNat)) then
some v3
else
rec2 (v3 + 1))
else none)
else none)
else none
def fX11_goesAbove (v1 : Int) (v2 : Int) (mo_driven : Nat → Int) : Option (Int) :=
zlp (fX11_goesAbove_2 v1 v2 mo_driven) zF v1
def fX11_breaksLaw_207 (rec111 : Int × (Nat → Int) × (Nat → Int) × (Nat → Int) × Int → Option ((Nat → Int) × (Nat → Int) × (Nat → Int) × (Nat → Int) × Int × Int × (Nat → Int) × (Nat → Int) × (Nat → Int) × Int × Int × Int × (Nat → Int) × (Nat → Int) × (Nat → Int) × (Nat → Int) × (Nat → Int) × Int × Int × Int × Int)) (v3 : Int) (mo_foundAt : Nat → Int) (mo_foundRule : Nat → Int) (mo_foundMany : Nat → Int) (mo_found : Int) : Option ((Nat → Int) × (Nat → Int) × (Nat → Int) × (Nat → Int) × Int × Int × (Nat → Int) × (Nat → Int) × (Nat → Int) × Int × Int × Int × (Nat → Int) × (Nat → Int) × (Nat → Int) × (Nat → Int) × (Nat → Int) × Int × Int × Int × Int) :=
rec111 ((v3 + 1), mo_foundAt, mo_foundRule, mo_foundMany, mo_found)
def fX11_breaksLaw_156 (rec111 : Int × (Nat → Int) × (Nat → Int) × (Nat → Int) × Int → Option ((Nat → Int) × (Nat → Int) × (Nat → Int) × (Nat → Int) × Int × Int × (Nat → Int) × (Nat → Int) × (Nat → Int) × Int × Int × Int × (Nat → Int) × (Nat → Int) × (Nat → Int) × (Nat → Int) × (Nat → Int) × Int × Int × Int × Int)) (v3 : Int) (s0 : Int) (mo_rules : Nat → Int) (mo_driven : Nat → Int) (mo_foundAt : Nat → Int) (mo_foundRule : Nat → Int) (mo_foundMany : Nat → Int) (mo_found : Int) : Option ((Nat → Int) × (Nat → Int) × (Nat → Int) × (Nat → Int) × Int × Int × (Nat → Int) × (Nat → Int) × (Nat → Int) × Int × Int × Int × (Nat → Int) × (Nat → Int) × (Nat → Int) × (Nat → Int) × (Nat → Int) × Int × Int × Int × Int) :=
(fX11_driveIn (v3 * 10080) s0 mo_driven).bind (fun r_166 =>
if zR (r_166 - (mo_rules 10)) then
(if (r_166 - (mo_rules 10)) ≤ 0 then
fX11_breaksLaw_207 rec111 v3 mo_foundAt mo_foundRule mo_foundMany mo_found
else
(fX11_goesAbove (v3 * 10080) (mo_rules 10) mo_driven).bind (fun r_198 =>
(fX11_tells r_198 4 (r_166 - (mo_rules 10)) mo_foundAt mo_foundRule mo_foundMany mo_found).bind (fun (mo_foundAt_204, mo_foundRule_204, mo_foundMany_204, mo_found_204) =>
fX11_breaksLaw_207 rec111 v3 mo_foundAt_204 mo_foundRule_204 mo_foundMany_204 mo_found_204)))
else none)
def fX11_breaksLaw_111 (mo_rules : Nat → Int) (mo_laid : Nat → Int) (mo_driven : Nat → Int) (mo_runFrom : Nat → Int) (mo_runTo : Nat → Int) (mo_size : Int) (mo_runs : Int) (mo_counted : Int) (mo_isParted : Int) (mo_maybe : Nat → Int) (mo_dayFrom : Nat → Int) (mo_dayTo : Nat → Int) (mo_dayRun : Nat → Int) (mo_isLonger : Nat → Int) (mo_maybes : Int) (mo_days : Int) (mo_over2 : Int) (mo_longer : Int) (rec111 : Int × (Nat → Int) × (Nat → Int) × (Nat → Int) × Int → Option ((Nat → Int) × (Nat → Int) × (Nat → Int) × (Nat → Int) × Int × Int × (Nat → Int) × (Nat → Int) × (Nat → Int) × Int × Int × Int × (Nat → Int) × (Nat → Int) × (Nat → Int) × (Nat → Int) × (Nat → Int) × Int × Int × Int × Int)) : Int × (Nat → Int) × (Nat → Int) × (Nat → Int) × Int → Option ((Nat → Int) × (Nat → Int) × (Nat → Int) × (Nat → Int) × Int × Int × (Nat → Int) × (Nat → Int) × (Nat → Int) × Int × Int × Int × (Nat → Int) × (Nat → Int) × (Nat → Int) × (Nat → Int) × (Nat → Int) × Int × Int × Int × Int) := fun (v3, mo_foundAt, mo_foundRule, mo_foundMany, mo_found) =>
if zR v3 then
(if 2 ≤ v3 then
some (mo_laid, mo_driven, mo_runFrom, mo_runTo, mo_size, mo_runs, mo_foundAt, mo_foundRule, mo_foundMany, mo_found, mo_counted, mo_isParted, mo_maybe, mo_dayFrom, mo_dayTo, mo_dayRun, mo_isLonger, mo_maybes, mo_days, mo_over2, mo_longer)
else
if zR (v3 * 10080) ∧ zR mo_size then
(if mo_size ≤ (v3 * 10080) then
some (mo_laid, mo_driven, mo_runFrom, mo_runTo, mo_size, mo_runs, mo_foundAt, mo_foundRule, mo_foundMany, mo_found, mo_counted, mo_isParted, mo_maybe, mo_dayFrom, mo_dayTo, mo_dayRun, mo_isLonger, mo_maybes, mo_days, mo_over2, mo_longer)
else
if zR ((v3 + 1) * 10080) ∧ zR mo_size then
(if mo_size ≤ ((v3 + 1) * 10080) then
fX11_breaksLaw_156 rec111 v3 mo_size mo_rules mo_driven mo_foundAt mo_foundRule mo_foundMany mo_found
else
fX11_breaksLaw_156 rec111 v3 ((v3 + 1) * 10080) mo_rules mo_driven mo_foundAt mo_foundRule mo_foundMany mo_found)
else none)
else none)
else none
def fX11_breaksLaw_83 (rec21 : Int × (Nat → Int) × (Nat → Int) × (Nat → Int) × Int → Option ((Nat → Int) × (Nat → Int) × (Nat → Int) × (Nat → Int) × Int × Int × (Nat → Int) × (Nat → Int) × (Nat → Int) × Int × Int × Int × (Nat → Int) × (Nat → Int) × (Nat → Int) × (Nat → Int) × (Nat → Int) × Int × Int × Int × Int)) (v3 : Int) (mo_rules : Nat → Int) (mo_runFrom : Nat → Int) (mo_runTo : Nat → Int) (mo_size : Int) (mo_foundAt : Nat → Int) (mo_foundRule : Nat → Int) (mo_foundMany : Nat → Int) (mo_found : Int) (mo_dayFrom : Nat → Int) (mo_dayRun : Nat → Int) : Option ((Nat → Int) × (Nat → Int) × (Nat → Int) × (Nat → Int) × Int × Int × (Nat → Int) × (Nat → Int) × (Nat → Int) × Int × Int × Int × (Nat → Int) × (Nat → Int) × (Nat → Int) × (Nat → Int) × (Nat → Int) × Int × Int × Int × Int) :=
if 0 ≤ v3 ∧ v3 < 62 then
((fX11_lateOf v3 mo_rules mo_runFrom mo_runTo mo_size mo_dayFrom mo_dayRun).bind (fun r_97 =>
(fX11_tells ((mo_dayFrom v3.toNat) + 1440) 3 r_97 mo_foundAt mo_foundRule mo_foundMany mo_found).bind (fun (mo_foundAt_100, mo_foundRule_100, mo_foundMany_100, mo_found_100) =>
rec21 ((v3 + 1), mo_foundAt_100, mo_foundRule_100, mo_foundMany_100, mo_found_100))))
else none
def fX11_breaksLaw_73 (rec21 : Int × (Nat → Int) × (Nat → Int) × (Nat → Int) × Int → Option ((Nat → Int) × (Nat → Int) × (Nat → Int) × (Nat → Int) × Int × Int × (Nat → Int) × (Nat → Int) × (Nat → Int) × Int × Int × Int × (Nat → Int) × (Nat → Int) × (Nat → Int) × (Nat → Int) × (Nat → Int) × Int × Int × Int × Int)) (v3 : Int) (v4 : Int) (s2 : Int) (s4 : Int) (mo_rules : Nat → Int) (mo_driven : Nat → Int) (mo_runFrom : Nat → Int) (mo_runTo : Nat → Int) (mo_size : Int) (mo_foundAt : Nat → Int) (mo_foundRule : Nat → Int) (mo_foundMany : Nat → Int) (mo_found : Int) (mo_dayFrom : Nat → Int) (mo_dayRun : Nat → Int) : Option ((Nat → Int) × (Nat → Int) × (Nat → Int) × (Nat → Int) × Int × Int × (Nat → Int) × (Nat → Int) × (Nat → Int) × Int × Int × Int × (Nat → Int) × (Nat → Int) × (Nat → Int) × (Nat → Int) × (Nat → Int) × Int × Int × Int × Int) :=
if 0 ≤ s4 ∧ s4 < 11 then
((fX11_goesAbove s2 (mo_rules s4.toNat) mo_driven).bind (fun r_74 =>
(fX11_tells r_74 2 v4 mo_foundAt mo_foundRule mo_foundMany mo_found).bind (fun (mo_foundAt_80, mo_foundRule_80, mo_foundMany_80, mo_found_80) =>
fX11_breaksLaw_83 rec21 v3 mo_rules mo_runFrom mo_runTo mo_size mo_foundAt_80 mo_foundRule_80 mo_foundMany_80 mo_found_80 mo_dayFrom mo_dayRun)))
else none
def fX11_breaksLaw_21 (mo_rules : Nat → Int) (mo_laid : Nat → Int) (mo_driven : Nat → Int) (mo_runFrom : Nat → Int) (mo_runTo : Nat → Int) (mo_size : Int) (mo_runs : Int) (mo_counted : Int) (mo_isParted : Int) (mo_maybe : Nat → Int) (mo_dayFrom : Nat → Int) (mo_dayTo : Nat → Int) (mo_dayRun : Nat → Int) (mo_isLonger : Nat → Int) (mo_maybes : Int) (mo_days : Int) (mo_over2 : Int) (mo_longer : Int) (rec21 : Int × (Nat → Int) × (Nat → Int) × (Nat → Int) × Int → Option ((Nat → Int) × (Nat → Int) × (Nat → Int) × (Nat → Int) × Int × Int × (Nat → Int) × (Nat → Int) × (Nat → Int) × Int × Int × Int × (Nat → Int) × (Nat → Int) × (Nat → Int) × (Nat → Int) × (Nat → Int) × Int × Int × Int × Int)) : Int × (Nat → Int) × (Nat → Int) × (Nat → Int) × Int → Option ((Nat → Int) × (Nat → Int) × (Nat → Int) × (Nat → Int) × Int × Int × (Nat → Int) × (Nat → Int) × (Nat → Int) × Int × Int × Int × (Nat → Int) × (Nat → Int) × (Nat → Int) × (Nat → Int) × (Nat → Int) × Int × Int × Int × Int) := fun (v3, mo_foundAt, mo_foundRule, mo_foundMany, mo_found) =>
if zR v3 ∧ zR mo_days then
(if mo_days ≤ v3 then
zlp (fX11_breaksLaw_111 mo_rules mo_laid mo_driven mo_runFrom mo_runTo mo_size mo_runs mo_counted mo_isParted mo_maybe mo_dayFrom mo_dayTo mo_dayRun mo_isLonger mo_maybes mo_days mo_over2 mo_longer) zF (0, mo_foundAt, mo_foundRule, mo_foundMany, mo_found)
else
if 0 ≤ v3 ∧ v3 < 62 then
((fX11_overOf v3 (mo_isLonger v3.toNat) mo_rules mo_driven mo_dayFrom mo_dayTo).bind (fun r_37 =>
if zR r_37 then
(if r_37 ≤ 0 then
fX11_breaksLaw_83 rec21 v3 mo_rules mo_runFrom mo_runTo mo_size mo_foundAt mo_foundRule mo_foundMany mo_found mo_dayFrom mo_dayRun
else
if 0 ≤ v3 ∧ v3 < 62 then
(if 0 ≤ v3 ∧ v3 < 62 then
(if zR (mo_isLonger v3.toNat) then
(if (mo_isLonger v3.toNat) = 0 then
fX11_breaksLaw_73 rec21 v3 r_37 (mo_dayFrom v3.toNat) 4 mo_rules mo_driven mo_runFrom mo_runTo mo_size mo_foundAt mo_foundRule mo_foundMany mo_found mo_dayFrom mo_dayRun
else
fX11_breaksLaw_73 rec21 v3 r_37 (mo_dayFrom v3.toNat) 5 mo_rules mo_driven mo_runFrom mo_runTo mo_size mo_foundAt mo_foundRule mo_foundMany mo_found mo_dayFrom mo_dayRun)
else none)
else none)
else none)
else none))
else none)
else none
def fX11_breaksLaw (v1 : Int) (v2 : Int) (mo_rules : Nat → Int) (mo_acts : Nat → Int) (mo_kindOf : Nat → Int) (mo_lengthOf : Nat → Int) (mo_laid : Nat → Int) (mo_driven : Nat → Int) (mo_runFrom : Nat → Int) (mo_runTo : Nat → Int) (mo_size : Int) (mo_runs : Int) (mo_foundAt : Nat → Int) (mo_foundRule : Nat → Int) (mo_foundMany : Nat → Int) (mo_found : Int) (mo_counted : Int) (mo_isParted : Int) (mo_maybe : Nat → Int) (mo_dayFrom : Nat → Int) (mo_dayTo : Nat → Int) (mo_dayRun : Nat → Int) (mo_isLonger : Nat → Int) (mo_maybes : Int) (mo_days : Int) (mo_over2 : Int) (mo_longer : Int) : Option ((Nat → Int) × (Nat → Int) × (Nat → Int) × (Nat → Int) × Int × Int × (Nat → Int) × (Nat → Int) × (Nat → Int) × Int × Int × Int × (Nat → Int) × (Nat → Int) × (Nat → Int) × (Nat → Int) × (Nat → Int) × Int × Int × Int × Int) :=
(fX11_lays v1 v2 mo_acts mo_kindOf mo_lengthOf mo_laid mo_driven mo_runFrom mo_runTo mo_size mo_runs).bind (fun (mo_laid_3, mo_driven_3, mo_runFrom_3, mo_runTo_3, mo_size_3, mo_runs_3) =>
(fX11_ruleOne mo_rules mo_laid_3 mo_runFrom_3 mo_runTo_3 mo_size_3 mo_runs_3 mo_foundAt mo_foundRule mo_foundMany 0 mo_counted mo_isParted).bind (fun (mo_foundAt_12, mo_foundRule_12, mo_foundMany_12, mo_found_12, mo_counted_12, mo_isParted_12) =>
(fX11_chooses mo_rules mo_driven_3 mo_runFrom_3 mo_runTo_3 mo_size_3 mo_runs_3 mo_maybe mo_dayFrom mo_dayTo mo_dayRun mo_isLonger mo_maybes mo_days mo_over2 mo_longer).bind (fun (mo_maybe_16, mo_dayFrom_16, mo_dayTo_16, mo_dayRun_16, mo_isLonger_16, mo_maybes_16, mo_days_16, mo_over2_16, mo_longer_16) =>
zlp (fX11_breaksLaw_21 mo_rules mo_laid_3 mo_driven_3 mo_runFrom_3 mo_runTo_3 mo_size_3 mo_runs_3 mo_counted_12 mo_isParted_12 mo_maybe_16 mo_dayFrom_16 mo_dayTo_16 mo_dayRun_16 mo_isLonger_16 mo_maybes_16 mo_days_16 mo_over2_16 mo_longer_16) zF (0, mo_foundAt_12, mo_foundRule_12, mo_foundMany_12, mo_found_12))))
def fX11_breach_11 (mo_laid : Nat → Int) (mo_driven : Nat → Int) (mo_runFrom : Nat → Int) (mo_runTo : Nat → Int) (mo_size : Int) (mo_runs : Int) (mo_foundAt : Nat → Int) (mo_foundRule : Nat → Int) (mo_foundMany : Nat → Int) (mo_found : Int) (mo_counted : Int) (mo_isParted : Int) (mo_maybe : Nat → Int) (mo_dayFrom : Nat → Int) (mo_dayTo : Nat → Int) (mo_dayRun : Nat → Int) (mo_isLonger : Nat → Int) (mo_maybes : Int) (mo_days : Int) (mo_over2 : Int) (mo_longer : Int) : Option (Int × (Nat → Int) × (Nat → Int) × (Nat → Int) × (Nat → Int) × Int × Int × (Nat → Int) × (Nat → Int) × (Nat → Int) × Int × Int × Int × (Nat → Int) × (Nat → Int) × (Nat → Int) × (Nat → Int) × (Nat → Int) × Int × Int × Int × Int) :=
some ((-1), mo_laid, mo_driven, mo_runFrom, mo_runTo, mo_size, mo_runs, mo_foundAt, mo_foundRule, mo_foundMany, mo_found, mo_counted, mo_isParted, mo_maybe, mo_dayFrom, mo_dayTo, mo_dayRun, mo_isLonger, mo_maybes, mo_days, mo_over2, mo_longer)
def fX11_breach (v1 : Int) (v2 : Int) (v3 : Int) (v4 : Int) (mo_rules : Nat → Int) (mo_acts : Nat → Int) (mo_kindOf : Nat → Int) (mo_lengthOf : Nat → Int) (mo_laid : Nat → Int) (mo_driven : Nat → Int) (mo_runFrom : Nat → Int) (mo_runTo : Nat → Int) (mo_size : Int) (mo_runs : Int) (mo_foundAt : Nat → Int) (mo_foundRule : Nat → Int) (mo_foundMany : Nat → Int) (mo_found : Int) (mo_counted : Int) (mo_isParted : Int) (mo_maybe : Nat → Int) (mo_dayFrom : Nat → Int) (mo_dayTo : Nat → Int) (mo_dayRun : Nat → Int) (mo_isLonger : Nat → Int) (mo_maybes : Int) (mo_days : Int) (mo_over2 : Int) (mo_longer : Int) : Option (Int × (Nat → Int) × (Nat → Int) × (Nat → Int) × (Nat → Int) × Int × Int × (Nat → Int) × (Nat → Int) × (Nat → Int) × Int × Int × Int × (Nat → Int) × (Nat → Int) × (Nat → Int) × (Nat → Int) × (Nat → Int) × Int × Int × Int × Int) :=
(fX11_isCard v1).bind (fun r_1 =>
if zR r_1 then
(if r_1 = 0 then
fX11_breach_11 mo_laid mo_driven mo_runFrom mo_runTo mo_size mo_runs mo_foundAt mo_foundRule mo_foundMany mo_found mo_counted mo_isParted mo_maybe mo_dayFrom mo_dayTo mo_dayRun mo_isLonger mo_maybes mo_days mo_over2 mo_longer
else
if zR v3 then
(if 0 ≤ v3 then
(fX11_breaksLaw v1 v2 mo_rules mo_acts mo_kindOf mo_lengthOf mo_laid mo_driven mo_runFrom mo_runTo mo_size mo_runs mo_foundAt mo_foundRule mo_foundMany mo_found mo_counted mo_isParted mo_maybe mo_dayFrom mo_dayTo mo_dayRun mo_isLonger mo_maybes mo_days mo_over2 mo_longer).bind (fun (mo_laid_16, mo_driven_16, mo_runFrom_16, mo_runTo_16, mo_size_16, mo_runs_16, mo_foundAt_16, mo_foundRule_16, mo_foundMany_16, mo_found_16, mo_counted_16, mo_isParted_16, mo_maybe_16, mo_dayFrom_16, mo_dayTo_16, mo_dayRun_16, mo_isLonger_16, mo_maybes_16, mo_days_16, mo_over2_16, mo_longer_16) =>
if zR v3 ∧ zR mo_found_16 then
(if v3 < mo_found_16 then
if zR v4 then
(if v4 ≠ 0 then
if zR v4 then
(if v4 ≠ 1 then
if zR v4 then
(if v4 ≠ 2 then
some ((-1), mo_laid_16, mo_driven_16, mo_runFrom_16, mo_runTo_16, mo_size_16, mo_runs_16, mo_foundAt_16, mo_foundRule_16, mo_foundMany_16, mo_found_16, mo_counted_16, mo_isParted_16, mo_maybe_16, mo_dayFrom_16, mo_dayTo_16, mo_dayRun_16, mo_isLonger_16, mo_maybes_16, mo_days_16, mo_over2_16, mo_longer_16)
else
if 0 ≤ v3 ∧ v3 < 400 then
(some ((mo_foundMany_16 v3.toNat), mo_laid_16, mo_driven_16, mo_runFrom_16, mo_runTo_16, mo_size_16, mo_runs_16, mo_foundAt_16, mo_foundRule_16, mo_foundMany_16, mo_found_16, mo_counted_16, mo_isParted_16, mo_maybe_16, mo_dayFrom_16, mo_dayTo_16, mo_dayRun_16, mo_isLonger_16, mo_maybes_16, mo_days_16, mo_over2_16, mo_longer_16))
else none)
else none
else
if 0 ≤ v3 ∧ v3 < 400 then
(some ((mo_foundRule_16 v3.toNat), mo_laid_16, mo_driven_16, mo_runFrom_16, mo_runTo_16, mo_size_16, mo_runs_16, mo_foundAt_16, mo_foundRule_16, mo_foundMany_16, mo_found_16, mo_counted_16, mo_isParted_16, mo_maybe_16, mo_dayFrom_16, mo_dayTo_16, mo_dayRun_16, mo_isLonger_16, mo_maybes_16, mo_days_16, mo_over2_16, mo_longer_16))
else none)
else none
else
if 0 ≤ v3 ∧ v3 < 400 then
(some ((mo_foundAt_16 v3.toNat), mo_laid_16, mo_driven_16, mo_runFrom_16, mo_runTo_16, mo_size_16, mo_runs_16, mo_foundAt_16, mo_foundRule_16, mo_foundMany_16, mo_found_16, mo_counted_16, mo_isParted_16, mo_maybe_16, mo_dayFrom_16, mo_dayTo_16, mo_dayRun_16, mo_isLonger_16, mo_maybes_16, mo_days_16, mo_over2_16, mo_longer_16))
else none)
else none
else
some ((-1), mo_laid_16, mo_driven_16, mo_runFrom_16, mo_runTo_16, mo_size_16, mo_runs_16, mo_foundAt_16, mo_foundRule_16, mo_foundMany_16, mo_found_16, mo_counted_16, mo_isParted_16, mo_maybe_16, mo_dayFrom_16, mo_dayTo_16, mo_dayRun_16, mo_isLonger_16, mo_maybes_16, mo_days_16, mo_over2_16, mo_longer_16))
else none)
else
fX11_breach_11 mo_laid mo_driven mo_runFrom mo_runTo mo_size mo_runs mo_foundAt mo_foundRule mo_foundMany mo_found mo_counted mo_isParted mo_maybe mo_dayFrom mo_dayTo mo_dayRun mo_isLonger mo_maybes mo_days mo_over2 mo_longer)
else none)
else none)
def fX11_breaches (v1 : Int) (v2 : Int) (mo_rules : Nat → Int) (mo_acts : Nat → Int) (mo_kindOf : Nat → Int) (mo_lengthOf : Nat → Int) (mo_laid : Nat → Int) (mo_driven : Nat → Int) (mo_runFrom : Nat → Int) (mo_runTo : Nat → Int) (mo_size : Int) (mo_runs : Int) (mo_foundAt : Nat → Int) (mo_foundRule : Nat → Int) (mo_foundMany : Nat → Int) (mo_found : Int) (mo_counted : Int) (mo_isParted : Int) (mo_maybe : Nat → Int) (mo_dayFrom : Nat → Int) (mo_dayTo : Nat → Int) (mo_dayRun : Nat → Int) (mo_isLonger : Nat → Int) (mo_maybes : Int) (mo_days : Int) (mo_over2 : Int) (mo_longer : Int) : Option (Int × (Nat → Int) × (Nat → Int) × (Nat → Int) × (Nat → Int) × Int × Int × (Nat → Int) × (Nat → Int) × (Nat → Int) × Int × Int × Int × (Nat → Int) × (Nat → Int) × (Nat → Int) × (Nat → Int) × (Nat → Int) × Int × Int × Int × Int) :=
(fX11_isCard v1).bind (fun r_1 =>
if zR r_1 then
(if r_1 ≠ 0 then
(fX11_breaksLaw v1 v2 mo_rules mo_acts mo_kindOf mo_lengthOf mo_laid mo_driven mo_runFrom mo_runTo mo_size mo_runs mo_foundAt mo_foundRule mo_foundMany mo_found mo_counted mo_isParted mo_maybe mo_dayFrom mo_dayTo mo_dayRun mo_isLonger mo_maybes mo_days mo_over2 mo_longer).bind (fun (mo_laid_12, mo_driven_12, mo_runFrom_12, mo_runTo_12, mo_size_12, mo_runs_12, mo_foundAt_12, mo_foundRule_12, mo_foundMany_12, mo_found_12, mo_counted_12, mo_isParted_12, mo_maybe_12, mo_dayFrom_12, mo_dayTo_12, mo_dayRun_12, mo_isLonger_12, mo_maybes_12, mo_days_12, mo_over2_12, mo_longer_12) =>
some (mo_found_12, mo_laid_12, mo_driven_12, mo_runFrom_12, mo_runTo_12, mo_size_12, mo_runs_12, mo_foundAt_12, mo_foundRule_12, mo_foundMany_12, mo_found_12, mo_counted_12, mo_isParted_12, mo_maybe_12, mo_dayFrom_12, mo_dayTo_12, mo_dayRun_12, mo_isLonger_12, mo_maybes_12, mo_days_12, mo_over2_12, mo_longer_12))
else
some ((-1), mo_laid, mo_driven, mo_runFrom, mo_runTo, mo_size, mo_runs, mo_foundAt, mo_foundRule, mo_foundMany, mo_found, mo_counted, mo_isParted, mo_maybe, mo_dayFrom, mo_dayTo, mo_dayRun, mo_isLonger, mo_maybes, mo_days, mo_over2, mo_longer))
else none)
def fX11_canBe_12 (v1 : Int) : Option (Int) :=
if zR v1 then
(if 99 < v1 then
some 0
else
some 1)
else none
def fX11_canBe (v0 : Int) (v1 : Int)  : Option (Int) :=
if zR v0 then
(if v0 = 6 then
fX11_canBe_12 v1
else
if zR v0 then
(if v0 ≠ 9 then
if zR v1 then
(if v1 < 1 then
some 0
else
some 1)
else none
else
fX11_canBe_12 v1)
else none)
else none
def fX11_count_95 (rec66 : Int × Int → Option (Int × (Nat → Int) × (Nat → Int) × (Nat → Int) × (Nat → Int) × Int × Int)) (v4 : Int) (s0 : Int) : Option (Int × (Nat → Int) × (Nat → Int) × (Nat → Int) × (Nat → Int) × Int × Int) :=
rec66 (s0, (v4 + 1))
def fX11_count_66 (v1 : Int) (v2 : Int) (mo_acts : Nat → Int) (mo_minutes : Nat → Int) (mo_laid : Nat → Int) (mo_driven : Nat → Int) (mo_runFrom : Nat → Int) (mo_runTo : Nat → Int) (mo_size : Int) (mo_runs : Int) (rec66 : Int × Int → Option (Int × (Nat → Int) × (Nat → Int) × (Nat → Int) × (Nat → Int) × Int × Int)) : Int × Int → Option (Int × (Nat → Int) × (Nat → Int) × (Nat → Int) × (Nat → Int) × Int × Int) := fun (v3, v4) =>
if zR v4 ∧ zR mo_runs then
(if mo_runs ≤ v4 then
if zR v2 then
(if v2 = 0 then
if 0 ≤ v1 ∧ v1 < 4 then
(some ((mo_acts v1.toNat), mo_laid, mo_driven, mo_runFrom, mo_runTo, mo_size, mo_runs))
else none
else
if v2 = 1 then
if 0 ≤ v1 ∧ v1 < 4 then
(some ((mo_minutes v1.toNat), mo_laid, mo_driven, mo_runFrom, mo_runTo, mo_size, mo_runs))
else none
else
if v2 = 2 then
if 0 ≤ mo_size ∧ mo_size < 20161 then
(some ((mo_driven mo_size.toNat), mo_laid, mo_driven, mo_runFrom, mo_runTo, mo_size, mo_runs))
else none
else
if v2 = 3 then
some (mo_runs, mo_laid, mo_driven, mo_runFrom, mo_runTo, mo_size, mo_runs)
else
if v2 = 4 then
some (v3, mo_laid, mo_driven, mo_runFrom, mo_runTo, mo_size, mo_runs)
else
some ((-1), mo_laid, mo_driven, mo_runFrom, mo_runTo, mo_size, mo_runs))
else none
else
(fX11_runLength v4 mo_runFrom mo_runTo).bind (fun r_78 =>
if zR r_78 ∧ zR v3 then
(if r_78 ≤ v3 then
fX11_count_95 rec66 v4 v3
else
(fX11_runLength v4 mo_runFrom mo_runTo).bind (fun r_88 =>
fX11_count_95 rec66 v4 r_88))
else none))
else none
def fX11_count (v1 : Int) (v2 : Int) (mo_taped : Int) (mo_acts : Nat → Int) (mo_minutes : Nat → Int) (mo_kindOf : Nat → Int) (mo_lengthOf : Nat → Int) (mo_trips : Nat → Int) (mo_laid : Nat → Int) (mo_driven : Nat → Int) (mo_runFrom : Nat → Int) (mo_runTo : Nat → Int) (mo_size : Int) (mo_runs : Int) : Option (Int × (Nat → Int) × (Nat → Int) × (Nat → Int) × (Nat → Int) × Int × Int) :=
if zR v1 then
(if v1 ≠ (-1) then
(fX11_isCard v1).bind (fun r_47 =>
if zR r_47 then
(if r_47 ≠ 0 then
(fX11_lays v1 0 mo_acts mo_kindOf mo_lengthOf mo_laid mo_driven mo_runFrom mo_runTo mo_size mo_runs).bind (fun (mo_laid_58, mo_driven_58, mo_runFrom_58, mo_runTo_58, mo_size_58, mo_runs_58) =>
zlp (fX11_count_66 v1 v2 mo_acts mo_minutes mo_laid_58 mo_driven_58 mo_runFrom_58 mo_runTo_58 mo_size_58 mo_runs_58) zF (0, 0))
else
some ((-1), mo_laid, mo_driven, mo_runFrom, mo_runTo, mo_size, mo_runs))
else none)
else
if zR v2 then
(if v2 ≠ 0 then
if zR v2 then
(if v2 ≠ 1 then
if zR v2 then
(if v2 ≠ 2 then
some ((-1), mo_laid, mo_driven, mo_runFrom, mo_runTo, mo_size, mo_runs)
else
some ((mo_trips 1), mo_laid, mo_driven, mo_runFrom, mo_runTo, mo_size, mo_runs))
else none
else
some ((mo_trips 0), mo_laid, mo_driven, mo_runFrom, mo_runTo, mo_size, mo_runs))
else none
else
some (mo_taped, mo_laid, mo_driven, mo_runFrom, mo_runTo, mo_size, mo_runs))
else none)
else none
def fX11_day_11 (mo_laid : Nat → Int) (mo_driven : Nat → Int) (mo_runFrom : Nat → Int) (mo_runTo : Nat → Int) (mo_size : Int) (mo_runs : Int) (mo_maybe : Nat → Int) (mo_dayFrom : Nat → Int) (mo_dayTo : Nat → Int) (mo_dayRun : Nat → Int) (mo_isLonger : Nat → Int) (mo_maybes : Int) (mo_days : Int) (mo_over2 : Int) (mo_longer : Int) : Option (Int × (Nat → Int) × (Nat → Int) × (Nat → Int) × (Nat → Int) × Int × Int × (Nat → Int) × (Nat → Int) × (Nat → Int) × (Nat → Int) × (Nat → Int) × Int × Int × Int × Int) :=
some ((-1), mo_laid, mo_driven, mo_runFrom, mo_runTo, mo_size, mo_runs, mo_maybe, mo_dayFrom, mo_dayTo, mo_dayRun, mo_isLonger, mo_maybes, mo_days, mo_over2, mo_longer)
def fX11_day (v1 : Int) (v2 : Int) (v3 : Int) (v4 : Int) (mo_rules : Nat → Int) (mo_acts : Nat → Int) (mo_kindOf : Nat → Int) (mo_lengthOf : Nat → Int) (mo_laid : Nat → Int) (mo_driven : Nat → Int) (mo_runFrom : Nat → Int) (mo_runTo : Nat → Int) (mo_size : Int) (mo_runs : Int) (mo_maybe : Nat → Int) (mo_dayFrom : Nat → Int) (mo_dayTo : Nat → Int) (mo_dayRun : Nat → Int) (mo_isLonger : Nat → Int) (mo_maybes : Int) (mo_days : Int) (mo_over2 : Int) (mo_longer : Int) : Option (Int × (Nat → Int) × (Nat → Int) × (Nat → Int) × (Nat → Int) × Int × Int × (Nat → Int) × (Nat → Int) × (Nat → Int) × (Nat → Int) × (Nat → Int) × Int × Int × Int × Int) :=
(fX11_isCard v1).bind (fun r_1 =>
if zR r_1 then
(if r_1 = 0 then
fX11_day_11 mo_laid mo_driven mo_runFrom mo_runTo mo_size mo_runs mo_maybe mo_dayFrom mo_dayTo mo_dayRun mo_isLonger mo_maybes mo_days mo_over2 mo_longer
else
if zR v3 then
(if 0 ≤ v3 then
(fX11_lays v1 v2 mo_acts mo_kindOf mo_lengthOf mo_laid mo_driven mo_runFrom mo_runTo mo_size mo_runs).bind (fun (mo_laid_16, mo_driven_16, mo_runFrom_16, mo_runTo_16, mo_size_16, mo_runs_16) =>
(fX11_chooses mo_rules mo_driven_16 mo_runFrom_16 mo_runTo_16 mo_size_16 mo_runs_16 mo_maybe mo_dayFrom mo_dayTo mo_dayRun mo_isLonger mo_maybes mo_days mo_over2 mo_longer).bind (fun (mo_maybe_20, mo_dayFrom_20, mo_dayTo_20, mo_dayRun_20, mo_isLonger_20, mo_maybes_20, mo_days_20, mo_over2_20, mo_longer_20) =>
if zR v3 ∧ zR mo_days_20 then
(if v3 < mo_days_20 then
if zR v4 then
(if v4 = 0 then
if 0 ≤ v3 ∧ v3 < 62 then
(some ((mo_dayFrom_20 v3.toNat), mo_laid_16, mo_driven_16, mo_runFrom_16, mo_runTo_16, mo_size_16, mo_runs_16, mo_maybe_20, mo_dayFrom_20, mo_dayTo_20, mo_dayRun_20, mo_isLonger_20, mo_maybes_20, mo_days_20, mo_over2_20, mo_longer_20))
else none
else
if v4 = 1 then
if 0 ≤ v3 ∧ v3 < 62 then
(some ((mo_dayTo_20 v3.toNat), mo_laid_16, mo_driven_16, mo_runFrom_16, mo_runTo_16, mo_size_16, mo_runs_16, mo_maybe_20, mo_dayFrom_20, mo_dayTo_20, mo_dayRun_20, mo_isLonger_20, mo_maybes_20, mo_days_20, mo_over2_20, mo_longer_20))
else none
else
if v4 = 2 then
if 0 ≤ v3 ∧ v3 < 62 then
(if 0 ≤ v3 ∧ v3 < 62 then
((fX11_driveIn (mo_dayFrom_20 v3.toNat) (mo_dayTo_20 v3.toNat) mo_driven_16).bind (fun r_95 =>
some (r_95, mo_laid_16, mo_driven_16, mo_runFrom_16, mo_runTo_16, mo_size_16, mo_runs_16, mo_maybe_20, mo_dayFrom_20, mo_dayTo_20, mo_dayRun_20, mo_isLonger_20, mo_maybes_20, mo_days_20, mo_over2_20, mo_longer_20)))
else none)
else none
else
if v4 = 3 then
if 0 ≤ v3 ∧ v3 < 62 then
(if zR (mo_isLonger_20 v3.toNat) then
(if (mo_isLonger_20 v3.toNat) = 0 then
some (0, mo_laid_16, mo_driven_16, mo_runFrom_16, mo_runTo_16, mo_size_16, mo_runs_16, mo_maybe_20, mo_dayFrom_20, mo_dayTo_20, mo_dayRun_20, mo_isLonger_20, mo_maybes_20, mo_days_20, mo_over2_20, mo_longer_20)
else
some (1, mo_laid_16, mo_driven_16, mo_runFrom_16, mo_runTo_16, mo_size_16, mo_runs_16, mo_maybe_20, mo_dayFrom_20, mo_dayTo_20, mo_dayRun_20, mo_isLonger_20, mo_maybes_20, mo_days_20, mo_over2_20, mo_longer_20))
else none)
else none
else
if v4 = 4 then
if 0 ≤ v3 ∧ v3 < 62 then
(if zR (mo_dayRun_20 v3.toNat) then
(if (mo_dayRun_20 v3.toNat) ≠ (-1) then
if 0 ≤ v3 ∧ v3 < 62 then
((fX11_runLength (mo_dayRun_20 v3.toNat) mo_runFrom_16 mo_runTo_16).bind (fun r_135 =>
if zR r_135 ∧ zR (mo_rules 7) then
(if r_135 < (mo_rules 7) then
some (2, mo_laid_16, mo_driven_16, mo_runFrom_16, mo_runTo_16, mo_size_16, mo_runs_16, mo_maybe_20, mo_dayFrom_20, mo_dayTo_20, mo_dayRun_20, mo_isLonger_20, mo_maybes_20, mo_days_20, mo_over2_20, mo_longer_20)
else
some (1, mo_laid_16, mo_driven_16, mo_runFrom_16, mo_runTo_16, mo_size_16, mo_runs_16, mo_maybe_20, mo_dayFrom_20, mo_dayTo_20, mo_dayRun_20, mo_isLonger_20, mo_maybes_20, mo_days_20, mo_over2_20, mo_longer_20))
else none))
else none
else
some (0, mo_laid_16, mo_driven_16, mo_runFrom_16, mo_runTo_16, mo_size_16, mo_runs_16, mo_maybe_20, mo_dayFrom_20, mo_dayTo_20, mo_dayRun_20, mo_isLonger_20, mo_maybes_20, mo_days_20, mo_over2_20, mo_longer_20))
else none)
else none
else
some ((-1), mo_laid_16, mo_driven_16, mo_runFrom_16, mo_runTo_16, mo_size_16, mo_runs_16, mo_maybe_20, mo_dayFrom_20, mo_dayTo_20, mo_dayRun_20, mo_isLonger_20, mo_maybes_20, mo_days_20, mo_over2_20, mo_longer_20))
else none
else
some ((-1), mo_laid_16, mo_driven_16, mo_runFrom_16, mo_runTo_16, mo_size_16, mo_runs_16, mo_maybe_20, mo_dayFrom_20, mo_dayTo_20, mo_dayRun_20, mo_isLonger_20, mo_maybes_20, mo_days_20, mo_over2_20, mo_longer_20))
else none))
else
fX11_day_11 mo_laid mo_driven mo_runFrom mo_runTo mo_size mo_runs mo_maybe mo_dayFrom mo_dayTo mo_dayRun mo_isLonger mo_maybes mo_days mo_over2 mo_longer)
else none)
else none)
def fX11_types_2 (v1 : Int) (rec2 : Int × (Nat → Int) × Int → Option ((Nat → Int) × Int)) : Int × (Nat → Int) × Int → Option ((Nat → Int) × Int) := fun (v2, mo_tape, mo_taped) =>
if zR v2 then
(if v2 < 0 then
some (mo_tape, mo_taped)
else
if 0 ≤ mo_taped ∧ mo_taped < 80 then
(rec2 ((v2 + (-1)), (zU mo_tape mo_taped.toNat (zi2b (zshr v1 (8 * v2)))), (mo_taped + 1)))
else none)
else none
def fX11_types (v1 : Int) (mo_tape : Nat → Int) (mo_taped : Int) : Option ((Nat → Int) × Int) :=
zlp (fX11_types_2 v1) zF (3, mo_tape, mo_taped)
def fX11_feed (v1 : Int) (v2 : Int) (v3 : Int) (v4 : Int) (v5 : Int) (mo_tape : Nat → Int) (mo_taped : Int) : Option (Int × (Nat → Int) × Int) :=
if zR (mo_taped + 20) then
(if (mo_taped + 20) ≤ 80 then
(fX11_types v1 mo_tape mo_taped).bind (fun (mo_tape_16, mo_taped_16) =>
(fX11_types v2 mo_tape_16 mo_taped_16).bind (fun (mo_tape_21, mo_taped_21) =>
(fX11_types v3 mo_tape_21 mo_taped_21).bind (fun (mo_tape_26, mo_taped_26) =>
(fX11_types v4 mo_tape_26 mo_taped_26).bind (fun (mo_tape_32, mo_taped_32) =>
(fX11_types v5 mo_tape_32 mo_taped_32).bind (fun (mo_tape_38, mo_taped_38) =>
some (mo_taped_38, mo_tape_38, mo_taped_38))))))
else
some ((-1), mo_tape, mo_taped))
else none
def fX11_greater (v0 : Int) (v1 : Int)  : Option (Int) :=
if zR v0 ∧ zR v1 then
(if v0 ≤ v1 then
some v1
else
some v0)
else none
def fX11_isDigit_31  : Option (Int) :=
some 0
def fX11_isDigit (v1 : Int) (v2 : Int) (mo_tape : Nat → Int) : Option (Int) :=
if zR v1 ∧ zR v2 then
(if v2 ≤ v1 then
fX11_isDigit_31
else
if 0 ≤ v1 ∧ v1 < 80 then
(if zR (mo_tape v1.toNat) then
(if (mo_tape v1.toNat) < 48 then
fX11_isDigit_31
else
if 0 ≤ v1 ∧ v1 < 80 then
(if zR (mo_tape v1.toNat) then
(if 57 < (mo_tape v1.toNat) then
fX11_isDigit_31
else
some 1)
else none)
else none)
else none)
else none)
else none
def fX11_letterOf_139  : Option (Int) :=
some (-1)
def fX11_letterOf (v0 : Int)  : Option (Int) :=
if zR v0 then
(if v0 = 98 then
some 1
else
if v0 = 99 then
some 0
else
if v0 = 100 then
some 4
else
if v0 = 101 then
some 5
else
if v0 = 102 then
fX11_letterOf_139
else
if v0 = 103 then
fX11_letterOf_139
else
if v0 = 104 then
fX11_letterOf_139
else
if v0 = 105 then
fX11_letterOf_139
else
if v0 = 106 then
fX11_letterOf_139
else
if v0 = 107 then
fX11_letterOf_139
else
if v0 = 108 then
fX11_letterOf_139
else
if v0 = 109 then
fX11_letterOf_139
else
if v0 = 110 then
fX11_letterOf_139
else
if v0 = 111 then
fX11_letterOf_139
else
if v0 = 112 then
fX11_letterOf_139
else
if v0 = 113 then
some 8
else
if v0 = 114 then
some 7
else
if v0 = 115 then
some 2
else
if v0 = 116 then
some 3
else
if v0 = 117 then
fX11_letterOf_139
else
if v0 = 118 then
fX11_letterOf_139
else
if v0 = 119 then
some 10
else
if v0 = 120 then
some 6
else
if v0 = 121 then
some 9
else
fX11_letterOf_139)
else none
def fX11_parse_56 (rec2 : Int × (Nat → Int) → Option (Int × (Nat → Int))) (v1 : Int) (v3 : Int) (v4 : Int) (mo_tape : Nat → Int) (mo_said : Nat → Int) (rec56 : Int × Int → Option (Int × (Nat → Int))) : Int × Int → Option (Int × (Nat → Int)) := fun (v2, v5) =>
(fX11_isDigit v2 v1 mo_tape).bind (fun r_59 =>
if zR r_59 then
(if r_59 = 0 then
(fX11_canBe v3 v5).bind (fun r_106 =>
if zR r_106 then
(if r_106 ≠ 0 then
if 0 ≤ v3 ∧ v3 < 11 then
(if zR v2 ∧ zR v1 then
(if v2 ≠ v1 then
if 0 ≤ v2 ∧ v2 < 80 then
(if zR (mo_tape v2.toNat) then
(if (mo_tape v2.toNat) = 59 then
rec2 ((v2 + 1), (zU mo_said v3.toNat v5))
else
some ((500 + v2), (zU mo_said v3.toNat v5)))
else none)
else none
else
some (0, (zU mo_said v3.toNat v5)))
else none)
else none
else
some ((400 + v4), mo_said))
else none)
else
if zR v2 ∧ zR (v4 + 4) then
(if v2 ≠ (v4 + 4) then
if 0 ≤ v2 ∧ v2 < 80 then
(rec56 ((v2 + 1), (((10 * v5) + (mo_tape v2.toNat)) - 48)))
else none
else
some ((300 + v2), mo_said))
else none)
else none)
def fX11_parse_20 (rec2 : Int × (Nat → Int) → Option (Int × (Nat → Int))) (v1 : Int) (v2 : Int) (s0 : Int) (mo_tape : Nat → Int) (mo_said : Nat → Int) : Option (Int × (Nat → Int)) :=
if zR s0 then
(if s0 ≠ (-1) then
(fX11_isDigit (v2 + 1) v1 mo_tape).bind (fun r_41 =>
if zR r_41 then
(if r_41 ≠ 0 then
zlp (fX11_parse_56 rec2 v1 s0 (v2 + 1) mo_tape mo_said) zF ((v2 + 1), 0)
else
some ((200 + (v2 + 1)), mo_said))
else none)
else
some ((100 + v2), mo_said))
else none
def fX11_parse_2 (v1 : Int) (mo_tape : Nat → Int) (rec2 : Int × (Nat → Int) → Option (Int × (Nat → Int))) : Int × (Nat → Int) → Option (Int × (Nat → Int)) := fun (v2, mo_said) =>
if zR v2 ∧ zR v1 then
(if v1 ≤ v2 then
fX11_parse_20 rec2 v1 v2 (-1) mo_tape mo_said
else
if 0 ≤ v2 ∧ v2 < 80 then
((fX11_letterOf (mo_tape v2.toNat)).bind (fun r_13 =>
fX11_parse_20 rec2 v1 v2 r_13 mo_tape mo_said))
else none)
else none
def fX11_parse (v1 : Int) (mo_tape : Nat → Int) (mo_said : Nat → Int) : Option (Int × (Nat → Int)) :=
zlp (fX11_parse_2 v1 mo_tape) zF (0, mo_said)
def fX11_law_12 (mo_taped : Int) (mo_rules : Nat → Int) (mo_said : Nat → Int) : Option (Int × Int × (Nat → Int) × (Nat → Int)) :=
some ((-1), mo_taped, mo_rules, mo_said)
def fX11_law_62 (v2 : Int) (mo_taped : Int) (mo_rules : Nat → Int) (mo_said : Nat → Int) : Option (Int × Int × (Nat → Int) × (Nat → Int)) :=
some (v2, mo_taped, mo_rules, mo_said)
def fX11_law_34 (v2 : Int) (mo_taped : Int) (mo_said : Nat → Int) (rec34 : Int × (Nat → Int) → Option (Int × Int × (Nat → Int) × (Nat → Int))) : Int × (Nat → Int) → Option (Int × Int × (Nat → Int) × (Nat → Int)) := fun (v3, mo_rules) =>
if zR v3 then
(if 11 ≤ v3 then
fX11_law_62 v2 mo_taped mo_rules mo_said
else
if zR v2 then
(if v2 ≠ 0 then
fX11_law_62 v2 mo_taped mo_rules mo_said
else
if 0 ≤ v3 ∧ v3 < 11 then
(if 0 ≤ v3 ∧ v3 < 11 then
(rec34 ((v3 + 1), (zU mo_rules v3.toNat (mo_said v3.toNat))))
else none)
else none)
else none)
else none
def fX11_law (v1 : Int) (mo_tape : Nat → Int) (mo_taped : Int) (mo_rules : Nat → Int) (mo_said : Nat → Int) : Option (Int × Int × (Nat → Int) × (Nat → Int)) :=
if zR v1 then
(if v1 < 0 then
fX11_law_12 mo_taped mo_rules mo_said
else
if zR v1 ∧ zR mo_taped then
(if v1 ≤ mo_taped then
(fX11_begins mo_said).bind (fun mo_said_18 =>
(fX11_parse v1 mo_tape mo_said_18).bind (fun (r_23, mo_said_23) =>
zlp (fX11_law_34 r_23 0 mo_said_23) zF (0, mo_rules)))
else
fX11_law_12 mo_taped mo_rules mo_said)
else none)
else none
def fX11_lesser (v0 : Int) (v1 : Int)  : Option (Int) :=
if zR v0 ∧ zR v1 then
(if v1 ≤ v0 then
some v1
else
some v0)
else none
def fX11_look_21  : Option (Int) :=
some (-1)
def fX11_look_40 (v3 : Int) (v4 : Int) (mo_kindOf : Nat → Int) (mo_lengthOf : Nat → Int) (mo_vehicleOf : Nat → Int) (rec40 : Int × Int → Option (Int)) : Int × Int → Option (Int) := fun (v5, v6) =>
if zR v6 ∧ zR v4 then
(if v4 ≤ v6 then
if zR v3 then
(if v3 ≠ 0 then
if zR v3 then
(if v3 ≠ 1 then
if zR v3 then
(if v3 ≠ 2 then
if zR v3 then
(if v3 ≠ 3 then
some (-1)
else
if 0 ≤ v4 ∧ v4 < 240 then
(some (mo_vehicleOf v4.toNat))
else none)
else none
else
some v5)
else none
else
if 0 ≤ v4 ∧ v4 < 240 then
(some (mo_lengthOf v4.toNat))
else none)
else none
else
if 0 ≤ v4 ∧ v4 < 240 then
(some (mo_kindOf v4.toNat))
else none)
else none
else
if 0 ≤ v6 ∧ v6 < 240 then
(rec40 ((v5 + (mo_lengthOf v6.toNat)), (v6 + 1)))
else none)
else none
def fX11_look (v1 : Int) (v2 : Int) (v3 : Int) (mo_acts : Nat → Int) (mo_kindOf : Nat → Int) (mo_lengthOf : Nat → Int) (mo_vehicleOf : Nat → Int) : Option (Int) :=
(fX11_isCard v1).bind (fun r_1 =>
if zR r_1 then
(if r_1 = 0 then
fX11_look_21
else
if zR v2 then
(if v2 < 0 then
fX11_look_21
else
if 0 ≤ v1 ∧ v1 < 4 then
(if zR v2 ∧ zR (mo_acts v1.toNat) then
(if v2 < (mo_acts v1.toNat) then
zlp (fX11_look_40 v3 ((60 * v1) + v2) mo_kindOf mo_lengthOf mo_vehicleOf) zF (0, (60 * v1))
else
fX11_look_21)
else none)
else none)
else none)
else none)
def fX11_open_129 (rec53 : Int × Int × Int × Int → Option (Int × Int × Int)) (v2 : Int) (v3 : Int) (mo_counted : Int) (mo_isParted : Int) : Option (Int × Int × Int) :=
rec53 (v2, (v3 + 1), mo_counted, mo_isParted)
def fX11_open_53 (v1 : Int) (mo_rules : Nat → Int) (mo_driven : Nat → Int) (mo_runFrom : Nat → Int) (mo_runTo : Nat → Int) (mo_size : Int) (mo_runs : Int) (rec53 : Int × Int × Int × Int → Option (Int × Int × Int)) : Int × Int × Int × Int → Option (Int × Int × Int) := fun (v2, v3, mo_counted, mo_isParted) =>
if zR v3 ∧ zR v1 then
(if v1 ≤ v3 then
(fX11_driveIn v2 mo_size mo_driven).bind (fun r_146 =>
if zR v1 ∧ zR mo_runs then
(if mo_runs ≤ v1 then
some (0, (mo_counted + r_146), mo_isParted)
else
(fX11_runLength v1 mo_runFrom mo_runTo).bind (fun r_163 =>
some (r_163, (mo_counted + r_146), mo_isParted)))
else none)
else
if 0 ≤ v3 ∧ v3 < 60 then
((fX11_driveIn v2 (mo_runTo v3.toNat) mo_driven).bind (fun r_71 =>
if 0 ≤ v3 ∧ v3 < 60 then
((fX11_runLength v3 mo_runFrom mo_runTo).bind (fun r_88 =>
(fX11_resets r_88 mo_rules mo_isParted).bind (fun r_91 =>
if zR r_91 then
(if r_91 = 0 then
(fX11_runLength v3 mo_runFrom mo_runTo).bind (fun r_112 =>
if zR r_112 ∧ zR (mo_rules 2) then
(if r_112 < (mo_rules 2) then
fX11_open_129 rec53 (mo_runTo v3.toNat) v3 (mo_counted + r_71) mo_isParted
else
fX11_open_129 rec53 (mo_runTo v3.toNat) v3 (mo_counted + r_71) 1)
else none)
else
fX11_open_129 rec53 (mo_runTo v3.toNat) v3 0 0)
else none)))
else none))
else none)
else none
def fX11_open_38 (s0 : Int) (mo_rules : Nat → Int) (mo_driven : Nat → Int) (mo_runFrom : Nat → Int) (mo_runTo : Nat → Int) (mo_size : Int) (mo_runs : Int) : Option (Int × Int × Int) :=
zlp (fX11_open_53 s0 mo_rules mo_driven mo_runFrom mo_runTo mo_size mo_runs) zF (0, 0, 0, 0)
def fX11_open_34 (mo_rules : Nat → Int) (mo_driven : Nat → Int) (mo_runFrom : Nat → Int) (mo_runTo : Nat → Int) (mo_size : Int) (mo_runs : Int) : Option (Int × Int × Int) :=
fX11_open_38 mo_runs mo_rules mo_driven mo_runFrom mo_runTo mo_size mo_runs
def fX11_open  (mo_rules : Nat → Int) (mo_driven : Nat → Int) (mo_runFrom : Nat → Int) (mo_runTo : Nat → Int) (mo_size : Int) (mo_runs : Int) (mo_counted : Int) (mo_isParted : Int) : Option (Int × Int × Int) :=
if zR mo_runs then
(if mo_runs ≤ 0 then
fX11_open_34 mo_rules mo_driven mo_runFrom mo_runTo mo_size mo_runs
else
if 0 ≤ (mo_runs - 1) ∧ (mo_runs - 1) < 60 then
(if zR (mo_runTo (mo_runs - 1).toNat) ∧ zR mo_size then
(if (mo_runTo (mo_runs - 1).toNat) ≠ mo_size then
fX11_open_34 mo_rules mo_driven mo_runFrom mo_runTo mo_size mo_runs
else
fX11_open_38 (mo_runs - 1) mo_rules mo_driven mo_runFrom mo_runTo mo_size mo_runs)
else none)
else none)
else none
def fX11_may_40 (s0 : Int) (mo_rules : Nat → Int) (mo_laid : Nat → Int) (mo_driven : Nat → Int) (mo_runFrom : Nat → Int) (mo_runTo : Nat → Int) (mo_size : Int) (mo_runs : Int) (mo_counted : Int) (mo_isParted : Int) : Option (Int × (Nat → Int) × (Nat → Int) × (Nat → Int) × (Nat → Int) × Int × Int × Int × Int) :=
if zR s0 ∧ zR (mo_rules 0) then
(if (mo_rules 0) ≤ s0 then
some (0, mo_laid, mo_driven, mo_runFrom, mo_runTo, mo_size, mo_runs, mo_counted, mo_isParted)
else
some (((mo_rules 0) - s0), mo_laid, mo_driven, mo_runFrom, mo_runTo, mo_size, mo_runs, mo_counted, mo_isParted))
else none
def fX11_may_36 (mo_rules : Nat → Int) (mo_laid : Nat → Int) (mo_driven : Nat → Int) (mo_runFrom : Nat → Int) (mo_runTo : Nat → Int) (mo_size : Int) (mo_runs : Int) (mo_counted : Int) (mo_isParted : Int) : Option (Int × (Nat → Int) × (Nat → Int) × (Nat → Int) × (Nat → Int) × Int × Int × Int × Int) :=
fX11_may_40 mo_counted mo_rules mo_laid mo_driven mo_runFrom mo_runTo mo_size mo_runs mo_counted mo_isParted
def fX11_may (v1 : Int) (v2 : Int) (mo_rules : Nat → Int) (mo_acts : Nat → Int) (mo_kindOf : Nat → Int) (mo_lengthOf : Nat → Int) (mo_laid : Nat → Int) (mo_driven : Nat → Int) (mo_runFrom : Nat → Int) (mo_runTo : Nat → Int) (mo_size : Int) (mo_runs : Int) (mo_counted : Int) (mo_isParted : Int) : Option (Int × (Nat → Int) × (Nat → Int) × (Nat → Int) × (Nat → Int) × Int × Int × Int × Int) :=
(fX11_isCard v1).bind (fun r_1 =>
if zR r_1 then
(if r_1 ≠ 0 then
(fX11_lays v1 v2 mo_acts mo_kindOf mo_lengthOf mo_laid mo_driven mo_runFrom mo_runTo mo_size mo_runs).bind (fun (mo_laid_12, mo_driven_12, mo_runFrom_12, mo_runTo_12, mo_size_12, mo_runs_12) =>
(fX11_open mo_rules mo_driven_12 mo_runFrom_12 mo_runTo_12 mo_size_12 mo_runs_12 mo_counted mo_isParted).bind (fun (r_16, mo_counted_16, mo_isParted_16) =>
if zR r_16 then
(if r_16 ≤ 0 then
fX11_may_36 mo_rules mo_laid_12 mo_driven_12 mo_runFrom_12 mo_runTo_12 mo_size_12 mo_runs_12 mo_counted_16 mo_isParted_16
else
(fX11_resets r_16 mo_rules mo_isParted_16).bind (fun r_26 =>
if zR r_26 then
(if r_26 = 0 then
fX11_may_36 mo_rules mo_laid_12 mo_driven_12 mo_runFrom_12 mo_runTo_12 mo_size_12 mo_runs_12 mo_counted_16 mo_isParted_16
else
fX11_may_40 0 mo_rules mo_laid_12 mo_driven_12 mo_runFrom_12 mo_runTo_12 mo_size_12 mo_runs_12 mo_counted_16 mo_isParted_16)
else none))
else none))
else
some ((-1), mo_laid, mo_driven, mo_runFrom, mo_runTo, mo_size, mo_runs, mo_counted, mo_isParted))
else none)
def fX11_wholeOr (v1 : Int) (mo_rules : Nat → Int) : Option (Int) :=
if zR v1 then
(if v1 = 0 then
some (mo_rules 1)
else
(fX11_lesser (mo_rules 1) ((mo_rules 2) + (mo_rules 3))).bind (fun r_23 =>
some r_23))
else none
def fX11_mostOf_81 (rec21 : Int × Int × Int → Option (Int)) (v4 : Int) (v5 : Int) (s0 : Int) (s2 : Int) (mo_rules : Nat → Int) : Option (Int) :=
(fX11_wholeOr s2 mo_rules).bind (fun r_81 =>
rec21 (v4, v5, (s0 - r_81)))
def fX11_mostOf_61 (rec21 : Int × Int × Int → Option (Int)) (v5 : Int) (v6 : Int) (s0 : Int) (mo_rules : Nat → Int) : Option (Int) :=
if zR (mo_rules 0) then
(if (mo_rules 0) ≤ 1 then
fX11_mostOf_81 rec21 s0 v5 v6 0 mo_rules
else
fX11_mostOf_81 rec21 s0 v5 v6 1 mo_rules)
else none
def fX11_mostOf_21 (mo_rules : Nat → Int) (rec21 : Int × Int × Int → Option (Int)) : Int × Int × Int → Option (Int) := fun (v4, v5, v6) =>
if zR v6 then
(if v6 ≤ 0 then
some v4
else
(fX11_lesser (v5 + (mo_rules 0)) v6).bind (fun r_41 =>
if zR r_41 ∧ zR v4 then
(if r_41 ≤ v4 then
fX11_mostOf_61 rec21 (v5 + (mo_rules 0)) v6 v4 mo_rules
else
(fX11_lesser (v5 + (mo_rules 0)) v6).bind (fun r_53 =>
fX11_mostOf_61 rec21 (v5 + (mo_rules 0)) v6 r_53 mo_rules))
else none))
else none
def fX11_mostOf (v1 : Int) (v2 : Int) (v3 : Int) (mo_rules : Nat → Int) : Option (Int) :=
if zR v3 then
(if 0 ≤ v3 then
(fX11_lesser v1 v3).bind (fun r_8 =>
zlp (fX11_mostOf_21 mo_rules) zF (r_8, v1, (v3 - v2)))
else
some 0)
else none
def fX11_most_18 (mo_laid : Nat → Int) (mo_driven : Nat → Int) (mo_runFrom : Nat → Int) (mo_runTo : Nat → Int) (mo_size : Int) (mo_runs : Int) (mo_counted : Int) (mo_isParted : Int) : Option (Int × (Nat → Int) × (Nat → Int) × (Nat → Int) × (Nat → Int) × Int × Int × Int × Int) :=
some ((-1), mo_laid, mo_driven, mo_runFrom, mo_runTo, mo_size, mo_runs, mo_counted, mo_isParted)
def fX11_most_113 (v3 : Int) (s1 : Int) (s2 : Int) (mo_rules : Nat → Int) (mo_laid : Nat → Int) (mo_driven : Nat → Int) (mo_runFrom : Nat → Int) (mo_runTo : Nat → Int) (mo_size : Int) (mo_runs : Int) (mo_counted : Int) (mo_isParted : Int) : Option (Int × (Nat → Int) × (Nat → Int) × (Nat → Int) × (Nat → Int) × Int × Int × Int × Int) :=
(fX11_mostOf s1 s2 v3 mo_rules).bind (fun r_114 =>
some (r_114, mo_laid, mo_driven, mo_runFrom, mo_runTo, mo_size, mo_runs, mo_counted, mo_isParted))
def fX11_most_110 (v3 : Int) (s1 : Int) (s3 : Int) (mo_rules : Nat → Int) (mo_laid : Nat → Int) (mo_driven : Nat → Int) (mo_runFrom : Nat → Int) (mo_runTo : Nat → Int) (mo_size : Int) (mo_runs : Int) (mo_counted : Int) (mo_isParted : Int) : Option (Int × (Nat → Int) × (Nat → Int) × (Nat → Int) × (Nat → Int) × Int × Int × Int × Int) :=
(fX11_wholeOr s3 mo_rules).bind (fun r_110 =>
fX11_most_113 v3 s1 r_110 mo_rules mo_laid mo_driven mo_runFrom mo_runTo mo_size mo_runs mo_counted mo_isParted)
def fX11_most_150 (v3 : Int) (s1 : Int) (s3 : Int) (mo_rules : Nat → Int) (mo_laid : Nat → Int) (mo_driven : Nat → Int) (mo_runFrom : Nat → Int) (mo_runTo : Nat → Int) (mo_size : Int) (mo_runs : Int) (mo_counted : Int) (mo_isParted : Int) : Option (Int × (Nat → Int) × (Nat → Int) × (Nat → Int) × (Nat → Int) × Int × Int × Int × Int) :=
(fX11_wholeOr s3 mo_rules).bind (fun r_150 =>
(fX11_mostOf s1 r_150 v3 mo_rules).bind (fun r_154 =>
some (r_154, mo_laid, mo_driven, mo_runFrom, mo_runTo, mo_size, mo_runs, mo_counted, mo_isParted)))
def fX11_most_320 (v3 : Int) (v4 : Int) (v5 : Int) (v6 : Int) (v7 : Int) (s0 : Int) (mo_rules : Nat → Int) (mo_laid : Nat → Int) (mo_driven : Nat → Int) (mo_runFrom : Nat → Int) (mo_runTo : Nat → Int) (mo_size : Int) (mo_runs : Int) (mo_counted : Int) (mo_isParted : Int) : Option (Int × (Nat → Int) × (Nat → Int) × (Nat → Int) × (Nat → Int) × Int × Int × Int × Int) :=
if zR s0 then
(if s0 = 0 then
some (v7, mo_laid, mo_driven, mo_runFrom, mo_runTo, mo_size, mo_runs, mo_counted, mo_isParted)
else
(fX11_mostOf v5 v6 ((v3 - (mo_rules 2)) + v4) mo_rules).bind (fun r_345 =>
(fX11_greater v7 r_345).bind (fun r_348 =>
some (r_348, mo_laid, mo_driven, mo_runFrom, mo_runTo, mo_size, mo_runs, mo_counted, mo_isParted))))
else none
def fX11_most_319 (v3 : Int) (v4 : Int) (v5 : Int) (v6 : Int) (v7 : Int) (mo_rules : Nat → Int) (mo_laid : Nat → Int) (mo_driven : Nat → Int) (mo_runFrom : Nat → Int) (mo_runTo : Nat → Int) (mo_size : Int) (mo_runs : Int) (mo_counted : Int) (mo_isParted : Int) : Option (Int × (Nat → Int) × (Nat → Int) × (Nat → Int) × (Nat → Int) × Int × Int × Int × Int) :=
fX11_most_320 v3 v4 v5 v6 v7 0 mo_rules mo_laid mo_driven mo_runFrom mo_runTo mo_size mo_runs mo_counted mo_isParted
def fX11_most_262 (v3 : Int) (v4 : Int) (v5 : Int) (v6 : Int) (v8 : Int) (s0 : Int) (s2 : Int) (s4 : Int) (mo_rules : Nat → Int) (mo_laid : Nat → Int) (mo_driven : Nat → Int) (mo_runFrom : Nat → Int) (mo_runTo : Nat → Int) (mo_size : Int) (mo_runs : Int) (mo_counted : Int) (mo_isParted : Int) : Option (Int × (Nat → Int) × (Nat → Int) × (Nat → Int) × (Nat → Int) × Int × Int × Int × Int) :=
(fX11_wholeOr s4 mo_rules).bind (fun r_262 =>
(fX11_mostOf s2 r_262 (v3 - v8) mo_rules).bind (fun r_269 =>
(fX11_greater s0 r_269).bind (fun r_272 =>
if zR mo_isParted then
(if mo_isParted ≠ 0 then
fX11_most_319 v3 v4 v5 v6 r_272 mo_rules mo_laid mo_driven mo_runFrom mo_runTo mo_size mo_runs mo_counted mo_isParted
else
if zR v4 ∧ zR (mo_rules 2) then
(if (mo_rules 2) ≤ v4 then
fX11_most_319 v3 v4 v5 v6 r_272 mo_rules mo_laid mo_driven mo_runFrom mo_runTo mo_size mo_runs mo_counted mo_isParted
else
if zR (mo_rules 2) ∧ zR (mo_rules 1) then
(if (mo_rules 1) ≤ (mo_rules 2) then
fX11_most_319 v3 v4 v5 v6 r_272 mo_rules mo_laid mo_driven mo_runFrom mo_runTo mo_size mo_runs mo_counted mo_isParted
else
if zR v5 then
(if v5 ≤ 0 then
fX11_most_319 v3 v4 v5 v6 r_272 mo_rules mo_laid mo_driven mo_runFrom mo_runTo mo_size mo_runs mo_counted mo_isParted
else
fX11_most_320 v3 v4 v5 v6 r_272 1 mo_rules mo_laid mo_driven mo_runFrom mo_runTo mo_size mo_runs mo_counted mo_isParted)
else none)
else none)
else none)
else none)))
def fX11_most_232 (v3 : Int) (v4 : Int) (v5 : Int) (v6 : Int) (v7 : Int) (s0 : Int) (mo_rules : Nat → Int) (mo_laid : Nat → Int) (mo_driven : Nat → Int) (mo_runFrom : Nat → Int) (mo_runTo : Nat → Int) (mo_size : Int) (mo_runs : Int) (mo_counted : Int) (mo_isParted : Int) : Option (Int × (Nat → Int) × (Nat → Int) × (Nat → Int) × (Nat → Int) × Int × Int × Int × Int) :=
if zR (mo_rules 0) then
(if (mo_rules 0) ≤ 1 then
fX11_most_262 v3 v4 v5 v6 (s0 - v4) v7 (mo_rules 0) 0 mo_rules mo_laid mo_driven mo_runFrom mo_runTo mo_size mo_runs mo_counted mo_isParted
else
fX11_most_262 v3 v4 v5 v6 (s0 - v4) v7 (mo_rules 0) 1 mo_rules mo_laid mo_driven mo_runFrom mo_runTo mo_size mo_runs mo_counted mo_isParted)
else none
def fX11_most_212 (v3 : Int) (v4 : Int) (v5 : Int) (v6 : Int) (s0 : Int) (mo_rules : Nat → Int) (mo_laid : Nat → Int) (mo_driven : Nat → Int) (mo_runFrom : Nat → Int) (mo_runTo : Nat → Int) (mo_size : Int) (mo_runs : Int) (mo_counted : Int) (mo_isParted : Int) : Option (Int × (Nat → Int) × (Nat → Int) × (Nat → Int) × (Nat → Int) × Int × Int × Int × Int) :=
if zR mo_isParted then
(if mo_isParted = 0 then
fX11_most_232 v3 v4 v5 v6 s0 (mo_rules 1) mo_rules mo_laid mo_driven mo_runFrom mo_runTo mo_size mo_runs mo_counted mo_isParted
else
fX11_most_232 v3 v4 v5 v6 s0 v6 mo_rules mo_laid mo_driven mo_runFrom mo_runTo mo_size mo_runs mo_counted mo_isParted)
else none
def fX11_most_204 (v3 : Int) (v4 : Int) (v5 : Int) (v6 : Int) (s1 : Int) (s2 : Int) (mo_rules : Nat → Int) (mo_laid : Nat → Int) (mo_driven : Nat → Int) (mo_runFrom : Nat → Int) (mo_runTo : Nat → Int) (mo_size : Int) (mo_runs : Int) (mo_counted : Int) (mo_isParted : Int) : Option (Int × (Nat → Int) × (Nat → Int) × (Nat → Int) × (Nat → Int) × Int × Int × Int × Int) :=
(fX11_mostOf s1 s2 v3 mo_rules).bind (fun r_205 =>
fX11_most_212 v3 v4 v5 v6 r_205 mo_rules mo_laid mo_driven mo_runFrom mo_runTo mo_size mo_runs mo_counted mo_isParted)
def fX11_most_184 (v3 : Int) (v4 : Int) (v5 : Int) (v6 : Int) (s1 : Int) (mo_rules : Nat → Int) (mo_laid : Nat → Int) (mo_driven : Nat → Int) (mo_runFrom : Nat → Int) (mo_runTo : Nat → Int) (mo_size : Int) (mo_runs : Int) (mo_counted : Int) (mo_isParted : Int) : Option (Int × (Nat → Int) × (Nat → Int) × (Nat → Int) × (Nat → Int) × Int × Int × Int × Int) :=
fX11_most_204 v3 v4 v5 v6 s1 v6 mo_rules mo_laid mo_driven mo_runFrom mo_runTo mo_size mo_runs mo_counted mo_isParted
def fX11_most_201 (v3 : Int) (v4 : Int) (v5 : Int) (v6 : Int) (s1 : Int) (s3 : Int) (mo_rules : Nat → Int) (mo_laid : Nat → Int) (mo_driven : Nat → Int) (mo_runFrom : Nat → Int) (mo_runTo : Nat → Int) (mo_size : Int) (mo_runs : Int) (mo_counted : Int) (mo_isParted : Int) : Option (Int × (Nat → Int) × (Nat → Int) × (Nat → Int) × (Nat → Int) × Int × Int × Int × Int) :=
(fX11_wholeOr s3 mo_rules).bind (fun r_201 =>
fX11_most_204 v3 v4 v5 v6 s1 r_201 mo_rules mo_laid mo_driven mo_runFrom mo_runTo mo_size mo_runs mo_counted mo_isParted)
def fX11_most_60 (v3 : Int) (v4 : Int) (s0 : Int) (mo_rules : Nat → Int) (mo_laid : Nat → Int) (mo_driven : Nat → Int) (mo_runFrom : Nat → Int) (mo_runTo : Nat → Int) (mo_size : Int) (mo_runs : Int) (mo_counted : Int) (mo_isParted : Int) : Option (Int × (Nat → Int) × (Nat → Int) × (Nat → Int) × (Nat → Int) × Int × Int × Int × Int) :=
(fX11_lesser (mo_rules 1) (mo_rules 3)).bind (fun r_74 =>
if zR v4 then
(if v4 ≠ 0 then
(fX11_resets v4 mo_rules mo_isParted).bind (fun r_121 =>
if zR r_121 then
(if r_121 = 0 then
if zR s0 then
(if s0 ≤ 0 then
fX11_most_212 v3 v4 s0 r_74 0 mo_rules mo_laid mo_driven mo_runFrom mo_runTo mo_size mo_runs mo_counted mo_isParted
else
if zR mo_isParted then
(if mo_isParted ≠ 0 then
fX11_most_184 v3 v4 s0 r_74 s0 mo_rules mo_laid mo_driven mo_runFrom mo_runTo mo_size mo_runs mo_counted mo_isParted
else
if zR v4 ∧ zR (mo_rules 2) then
(if v4 < (mo_rules 2) then
if zR s0 then
(if s0 ≤ 1 then
fX11_most_201 v3 v4 s0 r_74 s0 0 mo_rules mo_laid mo_driven mo_runFrom mo_runTo mo_size mo_runs mo_counted mo_isParted
else
fX11_most_201 v3 v4 s0 r_74 s0 1 mo_rules mo_laid mo_driven mo_runFrom mo_runTo mo_size mo_runs mo_counted mo_isParted)
else none
else
fX11_most_184 v3 v4 s0 r_74 s0 mo_rules mo_laid mo_driven mo_runFrom mo_runTo mo_size mo_runs mo_counted mo_isParted)
else none)
else none)
else none
else
if zR (mo_rules 0) then
(if (mo_rules 0) ≤ 1 then
fX11_most_150 v3 (mo_rules 0) 0 mo_rules mo_laid mo_driven mo_runFrom mo_runTo mo_size mo_runs mo_counted mo_isParted
else
fX11_most_150 v3 (mo_rules 0) 1 mo_rules mo_laid mo_driven mo_runFrom mo_runTo mo_size mo_runs mo_counted mo_isParted)
else none)
else none)
else
if zR mo_isParted then
(if mo_isParted = 0 then
if zR s0 then
(if s0 ≤ 0 then
fX11_most_110 v3 s0 0 mo_rules mo_laid mo_driven mo_runFrom mo_runTo mo_size mo_runs mo_counted mo_isParted
else
fX11_most_110 v3 s0 1 mo_rules mo_laid mo_driven mo_runFrom mo_runTo mo_size mo_runs mo_counted mo_isParted)
else none
else
fX11_most_113 v3 s0 r_74 mo_rules mo_laid mo_driven mo_runFrom mo_runTo mo_size mo_runs mo_counted mo_isParted)
else none)
else none)
def fX11_most (v1 : Int) (v2 : Int) (v3 : Int) (mo_rules : Nat → Int) (mo_acts : Nat → Int) (mo_kindOf : Nat → Int) (mo_lengthOf : Nat → Int) (mo_laid : Nat → Int) (mo_driven : Nat → Int) (mo_runFrom : Nat → Int) (mo_runTo : Nat → Int) (mo_size : Int) (mo_runs : Int) (mo_counted : Int) (mo_isParted : Int) : Option (Int × (Nat → Int) × (Nat → Int) × (Nat → Int) × (Nat → Int) × Int × Int × Int × Int) :=
(fX11_isCard v1).bind (fun r_1 =>
if zR r_1 then
(if r_1 = 0 then
fX11_most_18 mo_laid mo_driven mo_runFrom mo_runTo mo_size mo_runs mo_counted mo_isParted
else
if zR v3 then
(if v3 < 0 then
fX11_most_18 mo_laid mo_driven mo_runFrom mo_runTo mo_size mo_runs mo_counted mo_isParted
else
if zR v3 then
(if v3 ≤ 2000 then
(fX11_lays v1 v2 mo_acts mo_kindOf mo_lengthOf mo_laid mo_driven mo_runFrom mo_runTo mo_size mo_runs).bind (fun (mo_laid_23, mo_driven_23, mo_runFrom_23, mo_runTo_23, mo_size_23, mo_runs_23) =>
(fX11_open mo_rules mo_driven_23 mo_runFrom_23 mo_runTo_23 mo_size_23 mo_runs_23 mo_counted mo_isParted).bind (fun (r_27, mo_counted_27, mo_isParted_27) =>
if zR mo_counted_27 ∧ zR (mo_rules 0) then
(if (mo_rules 0) ≤ mo_counted_27 then
fX11_most_60 v3 r_27 0 mo_rules mo_laid_23 mo_driven_23 mo_runFrom_23 mo_runTo_23 mo_size_23 mo_runs_23 mo_counted_27 mo_isParted_27
else
fX11_most_60 v3 r_27 ((mo_rules 0) - mo_counted_27) mo_rules mo_laid_23 mo_driven_23 mo_runFrom_23 mo_runTo_23 mo_size_23 mo_runs_23 mo_counted_27 mo_isParted_27)
else none))
else
fX11_most_18 mo_laid mo_driven mo_runFrom mo_runTo mo_size mo_runs mo_counted mo_isParted)
else none)
else none)
else none)
def fX11_put_30 (mo_kindOf : Nat → Int) (mo_vehicleOf : Nat → Int) : Option (Int × (Nat → Int) × (Nat → Int)) :=
some (0, mo_kindOf, mo_vehicleOf)
def fX11_put_64 (s1 : Int) (s2 : Int) (mo_kindOf : Nat → Int) (mo_vehicleOf : Nat → Int) : Option (Int × (Nat → Int) × (Nat → Int)) :=
if 0 ≤ s1 ∧ s1 < 240 then
(some (1, mo_kindOf, (zU mo_vehicleOf s1.toNat s2)))
else none
def fX11_put (v1 : Int) (v2 : Int) (v3 : Int) (v4 : Int) (mo_acts : Nat → Int) (mo_kindOf : Nat → Int) (mo_vehicleOf : Nat → Int) : Option (Int × (Nat → Int) × (Nat → Int)) :=
(fX11_isCard v1).bind (fun r_1 =>
if zR r_1 then
(if r_1 = 0 then
fX11_put_30 mo_kindOf mo_vehicleOf
else
if zR v2 then
(if v2 < 0 then
fX11_put_30 mo_kindOf mo_vehicleOf
else
if 0 ≤ v1 ∧ v1 < 4 then
(if zR v2 ∧ zR (mo_acts v1.toNat) then
(if (mo_acts v1.toNat) ≤ v2 then
fX11_put_30 mo_kindOf mo_vehicleOf
else
(fX11_isKind v3 v4).bind (fun r_24 =>
if zR r_24 then
(if r_24 ≠ 0 then
if 0 ≤ ((60 * v1) + v2) ∧ ((60 * v1) + v2) < 240 then
(if zR v3 then
(if v3 ≠ 0 then
fX11_put_64 ((60 * v1) + v2) (-1) (zU mo_kindOf ((60 * v1) + v2).toNat v3) mo_vehicleOf
else
fX11_put_64 ((60 * v1) + v2) v4 (zU mo_kindOf ((60 * v1) + v2).toNat v3) mo_vehicleOf)
else none)
else none
else
fX11_put_30 mo_kindOf mo_vehicleOf)
else none))
else none)
else none)
else none)
else none)
def fX11_rule (v1 : Int) (mo_rules : Nat → Int) : Option (Int) :=
(fX11_letterOf v1).bind (fun r_1 =>
if zR r_1 then
(if r_1 ≠ (-1) then
if 0 ≤ r_1 ∧ r_1 < 11 then
(some (mo_rules r_1.toNat))
else none
else
some (-1))
else none)
def fX11_trip_36 (mo_trips : Nat → Int) (mo_tripFrom : Nat → Int) (mo_tripTo : Nat → Int) : Option (Int × (Nat → Int) × (Nat → Int) × (Nat → Int)) :=
some (0, mo_trips, mo_tripFrom, mo_tripTo)
def fX11_trip_84 (rec44 : Int → Option (Int × (Nat → Int) × (Nat → Int) × (Nat → Int))) (v4 : Int) : Option (Int × (Nat → Int) × (Nat → Int) × (Nat → Int)) :=
rec44 (v4 + 1)
def fX11_trip_44 (v1 : Int) (v2 : Int) (v3 : Int) (mo_trips : Nat → Int) (mo_tripFrom : Nat → Int) (mo_tripTo : Nat → Int) (rec44 : Int → Option (Int × (Nat → Int) × (Nat → Int) × (Nat → Int))) : Int → Option (Int × (Nat → Int) × (Nat → Int) × (Nat → Int)) := fun v4 =>
if 0 ≤ v1 ∧ v1 < 2 then
(if zR v4 ∧ zR ((20 * v1) + (mo_trips v1.toNat)) then
(if ((20 * v1) + (mo_trips v1.toNat)) ≤ v4 then
if 0 ≤ v1 ∧ v1 < 2 then
(if 0 ≤ ((20 * v1) + (mo_trips v1.toNat)) ∧ ((20 * v1) + (mo_trips v1.toNat)) < 40 then
(if 0 ≤ v1 ∧ v1 < 2 then
(if 0 ≤ ((20 * v1) + (mo_trips v1.toNat)) ∧ ((20 * v1) + (mo_trips v1.toNat)) < 40 then
(if 0 ≤ v1 ∧ v1 < 2 then
(if 0 ≤ v1 ∧ v1 < 2 then
(some (1, (zU mo_trips v1.toNat ((mo_trips v1.toNat) + 1)), (zU mo_tripFrom ((20 * v1) + (mo_trips v1.toNat)).toNat v2), (zU mo_tripTo ((20 * v1) + (mo_trips v1.toNat)).toNat v3)))
else none)
else none)
else none)
else none)
else none)
else none
else
if 0 ≤ v4 ∧ v4 < 40 then
(if zR v2 ∧ zR (mo_tripTo v4.toNat) then
(if (mo_tripTo v4.toNat) ≤ v2 then
fX11_trip_84 rec44 v4
else
if 0 ≤ v4 ∧ v4 < 40 then
(if zR (mo_tripFrom v4.toNat) ∧ zR v3 then
(if v3 ≤ (mo_tripFrom v4.toNat) then
fX11_trip_84 rec44 v4
else
some (0, mo_trips, mo_tripFrom, mo_tripTo))
else none)
else none)
else none)
else none)
else none)
else none
def fX11_trip (v1 : Int) (v2 : Int) (v3 : Int) (mo_trips : Nat → Int) (mo_tripFrom : Nat → Int) (mo_tripTo : Nat → Int) : Option (Int × (Nat → Int) × (Nat → Int) × (Nat → Int)) :=
if zR v1 then
(if v1 < 0 then
fX11_trip_36 mo_trips mo_tripFrom mo_tripTo
else
if zR v1 then
(if 1 < v1 then
fX11_trip_36 mo_trips mo_tripFrom mo_tripTo
else
if zR v2 then
(if v2 < 0 then
fX11_trip_36 mo_trips mo_tripFrom mo_tripTo
else
if zR v3 then
(if 20160 < v3 then
fX11_trip_36 mo_trips mo_tripFrom mo_tripTo
else
if zR v2 ∧ zR v3 then
(if v3 ≤ v2 then
fX11_trip_36 mo_trips mo_tripFrom mo_tripTo
else
if 0 ≤ v1 ∧ v1 < 2 then
(if zR (mo_trips v1.toNat) then
(if (mo_trips v1.toNat) ≠ 20 then
zlp (fX11_trip_44 v1 v2 v3 mo_trips mo_tripFrom mo_tripTo) zF (20 * v1)
else
fX11_trip_36 mo_trips mo_tripFrom mo_tripTo)
else none)
else none)
else none)
else none)
else none)
else none)
else none
def fX11_weight (v1 : Int) (v2 : Int) (mo_rules : Nat → Int) (mo_acts : Nat → Int) (mo_kindOf : Nat → Int) (mo_lengthOf : Nat → Int) (mo_laid : Nat → Int) (mo_driven : Nat → Int) (mo_runFrom : Nat → Int) (mo_runTo : Nat → Int) (mo_size : Int) (mo_runs : Int) (mo_maybe : Nat → Int) (mo_dayFrom : Nat → Int) (mo_dayTo : Nat → Int) (mo_dayRun : Nat → Int) (mo_isLonger : Nat → Int) (mo_maybes : Int) (mo_days : Int) (mo_over2 : Int) (mo_longer : Int) : Option (Int × (Nat → Int) × (Nat → Int) × (Nat → Int) × (Nat → Int) × Int × Int × (Nat → Int) × (Nat → Int) × (Nat → Int) × (Nat → Int) × (Nat → Int) × Int × Int × Int × Int) :=
(fX11_isCard v1).bind (fun r_1 =>
if zR r_1 then
(if r_1 ≠ 0 then
(fX11_lays v1 v2 mo_acts mo_kindOf mo_lengthOf mo_laid mo_driven mo_runFrom mo_runTo mo_size mo_runs).bind (fun (mo_laid_12, mo_driven_12, mo_runFrom_12, mo_runTo_12, mo_size_12, mo_runs_12) =>
(fX11_chooses mo_rules mo_driven_12 mo_runFrom_12 mo_runTo_12 mo_size_12 mo_runs_12 mo_maybe mo_dayFrom mo_dayTo mo_dayRun mo_isLonger mo_maybes mo_days mo_over2 mo_longer).bind (fun (mo_maybe_16, mo_dayFrom_16, mo_dayTo_16, mo_dayRun_16, mo_isLonger_16, mo_maybes_16, mo_days_16, mo_over2_16, mo_longer_16) =>
some (mo_over2_16, mo_laid_12, mo_driven_12, mo_runFrom_12, mo_runTo_12, mo_size_12, mo_runs_12, mo_maybe_16, mo_dayFrom_16, mo_dayTo_16, mo_dayRun_16, mo_isLonger_16, mo_maybes_16, mo_days_16, mo_over2_16, mo_longer_16)))
else
some ((-1), mo_laid, mo_driven, mo_runFrom, mo_runTo, mo_size, mo_runs, mo_maybe, mo_dayFrom, mo_dayTo, mo_dayRun, mo_isLonger, mo_maybes, mo_days, mo_over2, mo_longer))
else none)
