def oX3_addSpan (ca : Nat → ClassId) (aDy : Nat → Nat)  (Ro : (Nat → Int) × (Nat → Int) × (Nat → Int) × Int) : (Nat → Nat) → va_W := fun _ => [((aDy 0), .inr (3, [.ref (aDy 1), .ref (aDy 2), .ref (aDy 3), .ref (aDy 4), .ref (aDy 5), .ref (aDy 6), .ref (aDy 7), .int (zI (Ro.2.2.2))])), ((aDy 1), .inl (ca 0, 61, .inl (zA (Ro.1)))), ((aDy 2), .inl (ca 0, 61, .inl (zA (Ro.2.1)))), ((aDy 5), .inl (ca 0, 61, .inl (zA (Ro.2.2.1))))]
def oiX3_addSpan (Ro : (Nat → Int) × (Nat → Int) × (Nat → Int) × Int) : Option Value := none
set_option maxRecDepth 100000 in
theorem kX3_addSpan (l : Launch) (D : va_G) (ca : Nat → ClassId) (aDy : Nat → Nat) (dy_from : Nat → Int) (dy_to : Nat → Int) (dy_endedBy : Nat → Int) (dy_size : Int) (v1 : Int) (v2 : Int) (v3 : Int) (Ro : (Nat → Int) × (Nat → Int) × (Nat → Int) × Int)
    (hf : fX3_addSpan v1 v2 v3 dy_from dy_to dy_endedBy dy_size = some Ro) : Zc l D ca yX3_addSpan cX3_addSpan 4 none { frames := 0, cells := 0, slots := 0, locals := 0 } [.ref (aDy 0), .int (zI v1), .int (zI v2), .int (zI v3)] [((aDy 0), .inr (3, [.ref (aDy 1), .ref (aDy 2), .ref (aDy 3), .ref (aDy 4), .ref (aDy 5), .ref (aDy 6), .ref (aDy 7), .int (zI dy_size)])), ((aDy 1), .inl (ca 0, 61, .inl (zA dy_from))), ((aDy 2), .inl (ca 0, 61, .inl (zA dy_to))), ((aDy 5), .inl (ca 0, 61, .inl (zA dy_endedBy)))] (oiX3_addSpan Ro) (oX3_addSpan ca aDy Ro) := by
  refine ctr_of (lv := [(0, .ref (aDy 0)), (1, .int (zI v1)), (2, .int (zI v2)), (3, .int (zI v3))]) (by decide +kernel) (Nat.le_of_ble_eq_true rfl) rfl (fun Γ hl0 C E hnm => ?_)
  unfold fX3_addSpan at hf
  refine g_aload_n (pc := 0) C 0 dX3_addSpan_0 rfl rfl ?_
  refine g_get (pc := 1) C zf_X3_33 0 rfl rfl dX3_addSpan_1 ?_
  refine g_bipush (pc := 4) C dX3_addSpan_4 (by decide) ?_
  refine g_icmp_ger (pc := 6) C (tgt := 49) dX3_addSpan_6 (by decide) (by decide) hf (fun hf => ?_) (fun hf => ?_)
  · exact g_vret (pc := 49) C hf E rfl (fun _ => 0) [0, 1, 2, 3] (by decide) rfl rfl (Nat.le_refl _) (Nat.le_refl _) dX3_addSpan_49
  · refine g_aload_n (pc := 9) C 0 dX3_addSpan_9 rfl rfl ?_
    refine g_get (pc := 10) C zf_X3_11 0 rfl rfl dX3_addSpan_10 ?_
    refine g_aload_n (pc := 13) C 0 dX3_addSpan_13 rfl rfl ?_
    refine g_get (pc := 14) C zf_X3_33 0 rfl rfl dX3_addSpan_14 ?_
    refine g_iload_n (pc := 17) C 1 dX3_addSpan_17 rfl rfl ?_
    refine g_iast (pc := 18) C (N := 61) (ws' := [((aDy 0), .inr (3, [.ref (aDy 1), .ref (aDy 2), .ref (aDy 3), .ref (aDy 4), .ref (aDy 5), .ref (aDy 6), .ref (aDy 7), .int (zI dy_size)])), ((aDy 1), .inl (ca 0, 61, .inl (zA (zU dy_from dy_size.toNat v1)))), ((aDy 2), .inl (ca 0, 61, .inl (zA dy_to))), ((aDy 5), .inl (ca 0, 61, .inl (zA dy_endedBy)))]) 1 rfl rfl (Nat.le_of_ble_eq_true rfl) rfl dX3_addSpan_18 hf (fun hf => ?_)
    refine g_aload_n (pc := 19) C 0 dX3_addSpan_19 rfl rfl ?_
    refine g_get (pc := 20) C zf_X3_15 0 rfl rfl dX3_addSpan_20 ?_
    refine g_aload_n (pc := 23) C 0 dX3_addSpan_23 rfl rfl ?_
    refine g_get (pc := 24) C zf_X3_33 0 rfl rfl dX3_addSpan_24 ?_
    refine g_iload_n (pc := 27) C 2 dX3_addSpan_27 rfl rfl ?_
    refine g_iast (pc := 28) C (N := 61) (ws' := [((aDy 0), .inr (3, [.ref (aDy 1), .ref (aDy 2), .ref (aDy 3), .ref (aDy 4), .ref (aDy 5), .ref (aDy 6), .ref (aDy 7), .int (zI dy_size)])), ((aDy 1), .inl (ca 0, 61, .inl (zA (zU dy_from dy_size.toNat v1)))), ((aDy 2), .inl (ca 0, 61, .inl (zA (zU dy_to dy_size.toNat v2)))), ((aDy 5), .inl (ca 0, 61, .inl (zA dy_endedBy)))]) 2 rfl rfl (Nat.le_of_ble_eq_true rfl) rfl dX3_addSpan_28 hf (fun hf => ?_)
    refine g_aload_n (pc := 29) C 0 dX3_addSpan_29 rfl rfl ?_
    refine g_get (pc := 30) C zf_X3_24 0 rfl rfl dX3_addSpan_30 ?_
    refine g_aload_n (pc := 33) C 0 dX3_addSpan_33 rfl rfl ?_
    refine g_get (pc := 34) C zf_X3_33 0 rfl rfl dX3_addSpan_34 ?_
    refine g_iload_n (pc := 37) C 3 dX3_addSpan_37 rfl rfl ?_
    refine g_iast (pc := 38) C (N := 61) (ws' := [((aDy 0), .inr (3, [.ref (aDy 1), .ref (aDy 2), .ref (aDy 3), .ref (aDy 4), .ref (aDy 5), .ref (aDy 6), .ref (aDy 7), .int (zI dy_size)])), ((aDy 1), .inl (ca 0, 61, .inl (zA (zU dy_from dy_size.toNat v1)))), ((aDy 2), .inl (ca 0, 61, .inl (zA (zU dy_to dy_size.toNat v2)))), ((aDy 5), .inl (ca 0, 61, .inl (zA (zU dy_endedBy dy_size.toNat v3))))]) 3 rfl rfl (Nat.le_of_ble_eq_true rfl) rfl dX3_addSpan_38 hf (fun hf => ?_)
    refine g_aload_n (pc := 39) C 0 dX3_addSpan_39 rfl rfl ?_
    refine g_dup (pc := 40) C dX3_addSpan_40 rfl ?_
    refine g_get (pc := 41) C zf_X3_33 0 rfl rfl dX3_addSpan_41 ?_
    refine g_iconst (pc := 44) C dX3_addSpan_44 ?_
    refine g_iadd (pc := 45) C dX3_addSpan_45 ?_
    refine g_put (pc := 46) C zf_X3_33 tyX3 tyX3_ok nmX3 (v := .int (zI (dy_size + 1))) (ws' := [((aDy 0), .inr (3, [.ref (aDy 1), .ref (aDy 2), .ref (aDy 3), .ref (aDy 4), .ref (aDy 5), .ref (aDy 6), .ref (aDy 7), .int (zI (dy_size + 1))])), ((aDy 1), .inl (ca 0, 61, .inl (zA (zU dy_from dy_size.toNat v1)))), ((aDy 2), .inl (ca 0, 61, .inl (zA (zU dy_to dy_size.toNat v2)))), ((aDy 5), .inl (ca 0, 61, .inl (zA (zU dy_endedBy dy_size.toNat v3))))]) 0 rfl rfl rfl rfl rfl (Nat.le_of_ble_eq_true rfl) rfl rfl dX3_addSpan_46 ?_
    exact g_vret (pc := 49) C hf E rfl (fun _ => 0) [0, 1, 2, 3] (by decide) rfl rfl (Nat.le_refl _) (Nat.le_refl _) dX3_addSpan_49
def oX3_overAndLate (ca : Nat → ClassId) (aDy : Nat → Nat) (dy_over : Nat → Int) (dy_late : Nat → Int) (dy_size : Int) (Ro : Int) : (Nat → Nat) → va_W := fun _ => [((aDy 0), .inr (3, [.ref (aDy 1), .ref (aDy 2), .ref (aDy 3), .ref (aDy 4), .ref (aDy 5), .ref (aDy 6), .ref (aDy 7), .int (zI dy_size)])), ((aDy 6), .inl (ca 0, 61, .inl (zA dy_over))), ((aDy 7), .inl (ca 0, 61, .inl (zA dy_late)))]
def oiX3_overAndLate (Ro : Int) : Option Value := (some (.int (zI Ro)))
set_option maxRecDepth 100000 in
theorem kX3_overAndLate (l : Launch) (D : va_G) (ca : Nat → ClassId) (aDy : Nat → Nat) (dy_over : Nat → Int) (dy_late : Nat → Int) (dy_size : Int)  (Ro : Int)
    (hf : fX3_overAndLate dy_over dy_late dy_size = some Ro) : Zc l D ca yX3_overAndLate cX3_overAndLate 3 (some .int) { frames := 0, cells := 0, slots := 0, locals := 0 } [.ref (aDy 0)] [((aDy 0), .inr (3, [.ref (aDy 1), .ref (aDy 2), .ref (aDy 3), .ref (aDy 4), .ref (aDy 5), .ref (aDy 6), .ref (aDy 7), .int (zI dy_size)])), ((aDy 6), .inl (ca 0, 61, .inl (zA dy_over))), ((aDy 7), .inl (ca 0, 61, .inl (zA dy_late)))] (oiX3_overAndLate Ro) (oX3_overAndLate ca aDy dy_over dy_late dy_size Ro) := by
  refine ctr_of (lv := [(0, .ref (aDy 0))]) (by decide +kernel) (Nat.le_of_ble_eq_true rfl) rfl (fun Γ hl0 C E hnm => ?_)
  have H4 : ∀  (n4 : Nat) (v1 : Int) (v2 : Int), zlp (fX3_overAndLate_4 dy_over dy_late dy_size) n4 (v1, v2) = some Ro → Zd D Γ 0 0 [((aDy 0), .inr (3, [.ref (aDy 1), .ref (aDy 2), .ref (aDy 3), .ref (aDy 4), .ref (aDy 5), .ref (aDy 6), .ref (aDy 7), .int (zI dy_size)])), ((aDy 6), .inl (ca 0, 61, .inl (zA dy_over))), ((aDy 7), .inl (ca 0, 61, .inl (zA dy_late)))] 4 [(0, .ref (aDy 0)), (1, .int (zI v1)), (2, .int (zI v2))] [] := by
    intro n4
    induction n4 with
    | zero =>
      intro v1 v2 hf
      exact zno hf
    | succ n4 ih4 =>
      intro v1 v2 hf
      rw [zlp_s] at hf
      unfold fX3_overAndLate_4 at hf
      dsimp only at hf
      refine g_iload_n (pc := 4) C 2 dX3_overAndLate_4 rfl rfl ?_
      refine g_aload_n (pc := 5) C 0 dX3_overAndLate_5 rfl rfl ?_
      refine g_get (pc := 6) C zf_X3_33 0 rfl rfl dX3_overAndLate_6 ?_
      refine g_icmp_ge (pc := 9) C (tgt := 34) dX3_overAndLate_9 (by decide) hf (fun hf => ?_) (fun hf => ?_)
      · refine g_iload_n (pc := 34) C 1 dX3_overAndLate_34 rfl rfl ?_
        exact g_iret (pc := 35) C hf E rfl (fun _ => 0) [0, 1, 2] (by decide) rfl rfl (Nat.le_refl _) (Nat.le_refl _) dX3_overAndLate_35
      · refine g_iload_n (pc := 12) C 1 dX3_overAndLate_12 rfl rfl ?_
        refine g_aload_n (pc := 13) C 0 dX3_overAndLate_13 rfl rfl ?_
        refine g_get (pc := 14) C zf_X3_27 0 rfl rfl dX3_overAndLate_14 ?_
        refine g_iload_n (pc := 17) C 2 dX3_overAndLate_17 rfl rfl ?_
        refine g_iald (pc := 18) C (N := 61) 1 rfl rfl (Nat.le_of_ble_eq_true rfl) dX3_overAndLate_18 hf (fun hf => ?_)
        refine g_aload_n (pc := 19) C 0 dX3_overAndLate_19 rfl rfl ?_
        refine g_get (pc := 20) C zf_X3_30 0 rfl rfl dX3_overAndLate_20 ?_
        refine g_iload_n (pc := 23) C 2 dX3_overAndLate_23 rfl rfl ?_
        refine g_iald (pc := 24) C (N := 61) 2 rfl rfl (Nat.le_of_ble_eq_true rfl) dX3_overAndLate_24 hf (fun hf => ?_)
        refine g_iadd (pc := 25) C dX3_overAndLate_25 ?_
        refine g_iadd (pc := 26) C dX3_overAndLate_26 ?_
        refine g_istore_n (pc := 27) C (lv' := [(1, .int (zI (v1 + ((dy_over v2.toNat) + (dy_late v2.toNat))))), (0, .ref (aDy 0)), (2, .int (zI v2))]) dX3_overAndLate_27 rfl (Nat.le_of_ble_eq_true rfl) rfl ?_
        refine g_iinc (pc := 28) C 2 (lv' := [(2, .int (zI (v2 + 1))), (1, .int (zI (v1 + ((dy_over v2.toNat) + (dy_late v2.toNat))))), (0, .ref (aDy 0))]) dX3_overAndLate_28 rfl (Nat.le_of_ble_eq_true rfl) rfl ?_
        refine g_goto (pc := 31) C (tgt := 4) dX3_overAndLate_31 (by decide) ?_
        refine g_sub [0, 1, 2] [2, 1, 0] (by decide) rfl rfl rfl ?_
        exact ih4 _ _ hf
  unfold fX3_overAndLate at hf
  refine g_iconst (pc := 0) C dX3_overAndLate_0 ?_
  refine g_istore_n (pc := 1) C (lv' := [(1, .int (zI 0)), (0, .ref (aDy 0))]) dX3_overAndLate_1 rfl (Nat.le_of_ble_eq_true rfl) rfl ?_
  refine g_iconst (pc := 2) C dX3_overAndLate_2 ?_
  refine g_istore_n (pc := 3) C (lv' := [(2, .int (zI 0)), (1, .int (zI 0)), (0, .ref (aDy 0))]) dX3_overAndLate_3 rfl (Nat.le_of_ble_eq_true rfl) rfl ?_
  refine g_sub [0, 1, 2] [2, 1, 0] (by decide) rfl rfl rfl ?_
  exact H4 _ _ _ hf
def oX3_setLast (ca : Nat → ClassId) (aDy : Nat → Nat) (dy_size : Int) (Ro : (Nat → Int) × (Nat → Int) × (Nat → Int) × (Nat → Int)) : (Nat → Nat) → va_W := fun _ => [((aDy 0), .inr (3, [.ref (aDy 1), .ref (aDy 2), .ref (aDy 3), .ref (aDy 4), .ref (aDy 5), .ref (aDy 6), .ref (aDy 7), .int (zI dy_size)])), ((aDy 3), .inl (ca 0, 61, .inl (zA (Ro.1)))), ((aDy 4), .inl (ca 0, 61, .inl (zA (Ro.2.1)))), ((aDy 6), .inl (ca 0, 61, .inl (zA (Ro.2.2.1)))), ((aDy 7), .inl (ca 0, 61, .inl (zA (Ro.2.2.2))))]
def oiX3_setLast (Ro : (Nat → Int) × (Nat → Int) × (Nat → Int) × (Nat → Int)) : Option Value := none
set_option maxRecDepth 100000 in
theorem kX3_setLast (l : Launch) (D : va_G) (ca : Nat → ClassId) (aDy : Nat → Nat) (dy_drive : Nat → Int) (dy_extended : Nat → Int) (dy_over : Nat → Int) (dy_late : Nat → Int) (dy_size : Int) (v1 : Int) (v2 : Int) (v3 : Int) (v4 : Int) (Ro : (Nat → Int) × (Nat → Int) × (Nat → Int) × (Nat → Int))
    (hf : fX3_setLast v1 v2 v3 v4 dy_drive dy_extended dy_over dy_late dy_size = some Ro) : Zc l D ca yX3_setLast cX3_setLast 5 none { frames := 0, cells := 0, slots := 0, locals := 0 } [.ref (aDy 0), .int (zI v1), .int (zI v2), .int (zI v3), .int (zI v4)] [((aDy 0), .inr (3, [.ref (aDy 1), .ref (aDy 2), .ref (aDy 3), .ref (aDy 4), .ref (aDy 5), .ref (aDy 6), .ref (aDy 7), .int (zI dy_size)])), ((aDy 3), .inl (ca 0, 61, .inl (zA dy_drive))), ((aDy 4), .inl (ca 0, 61, .inl (zA dy_extended))), ((aDy 6), .inl (ca 0, 61, .inl (zA dy_over))), ((aDy 7), .inl (ca 0, 61, .inl (zA dy_late)))] (oiX3_setLast Ro) (oX3_setLast ca aDy dy_size Ro) := by
  refine ctr_of (lv := [(0, .ref (aDy 0)), (1, .int (zI v1)), (2, .int (zI v2)), (3, .int (zI v3)), (4, .int (zI v4))]) (by decide +kernel) (Nat.le_of_ble_eq_true rfl) rfl (fun Γ hl0 C E hnm => ?_)
  unfold fX3_setLast at hf
  refine g_aload_n (pc := 0) C 0 dX3_setLast_0 rfl rfl ?_
  refine g_get (pc := 1) C zf_X3_33 0 rfl rfl dX3_setLast_1 ?_
  refine g_if_le (pc := 4) C (tgt := 56) dX3_setLast_4 (by decide) hf (fun hf => ?_) (fun hf => ?_)
  · exact g_vret (pc := 56) C hf E rfl (fun _ => 0) [0, 1, 2, 3, 4] (by decide) rfl rfl (Nat.le_refl _) (Nat.le_refl _) dX3_setLast_56
  · refine g_aload_n (pc := 7) C 0 dX3_setLast_7 rfl rfl ?_
    refine g_get (pc := 8) C zf_X3_18 0 rfl rfl dX3_setLast_8 ?_
    refine g_aload_n (pc := 11) C 0 dX3_setLast_11 rfl rfl ?_
    refine g_get (pc := 12) C zf_X3_33 0 rfl rfl dX3_setLast_12 ?_
    refine g_iconst (pc := 15) C dX3_setLast_15 ?_
    refine g_isub (pc := 16) C dX3_setLast_16 ?_
    refine g_iload_n (pc := 17) C 1 dX3_setLast_17 rfl rfl ?_
    refine g_iast (pc := 18) C (N := 61) (ws' := [((aDy 0), .inr (3, [.ref (aDy 1), .ref (aDy 2), .ref (aDy 3), .ref (aDy 4), .ref (aDy 5), .ref (aDy 6), .ref (aDy 7), .int (zI dy_size)])), ((aDy 3), .inl (ca 0, 61, .inl (zA (zU dy_drive (dy_size - 1).toNat v1)))), ((aDy 4), .inl (ca 0, 61, .inl (zA dy_extended))), ((aDy 6), .inl (ca 0, 61, .inl (zA dy_over))), ((aDy 7), .inl (ca 0, 61, .inl (zA dy_late)))]) 1 rfl rfl (Nat.le_of_ble_eq_true rfl) rfl dX3_setLast_18 hf (fun hf => ?_)
    refine g_aload_n (pc := 19) C 0 dX3_setLast_19 rfl rfl ?_
    refine g_get (pc := 20) C zf_X3_21 0 rfl rfl dX3_setLast_20 ?_
    refine g_aload_n (pc := 23) C 0 dX3_setLast_23 rfl rfl ?_
    refine g_get (pc := 24) C zf_X3_33 0 rfl rfl dX3_setLast_24 ?_
    refine g_iconst (pc := 27) C dX3_setLast_27 ?_
    refine g_isub (pc := 28) C dX3_setLast_28 ?_
    refine g_iload_n (pc := 29) C 2 dX3_setLast_29 rfl rfl ?_
    refine g_iast (pc := 30) C (N := 61) (ws' := [((aDy 0), .inr (3, [.ref (aDy 1), .ref (aDy 2), .ref (aDy 3), .ref (aDy 4), .ref (aDy 5), .ref (aDy 6), .ref (aDy 7), .int (zI dy_size)])), ((aDy 3), .inl (ca 0, 61, .inl (zA (zU dy_drive (dy_size - 1).toNat v1)))), ((aDy 4), .inl (ca 0, 61, .inl (zA (zU dy_extended (dy_size - 1).toNat v2)))), ((aDy 6), .inl (ca 0, 61, .inl (zA dy_over))), ((aDy 7), .inl (ca 0, 61, .inl (zA dy_late)))]) 2 rfl rfl (Nat.le_of_ble_eq_true rfl) rfl dX3_setLast_30 hf (fun hf => ?_)
    refine g_aload_n (pc := 31) C 0 dX3_setLast_31 rfl rfl ?_
    refine g_get (pc := 32) C zf_X3_27 0 rfl rfl dX3_setLast_32 ?_
    refine g_aload_n (pc := 35) C 0 dX3_setLast_35 rfl rfl ?_
    refine g_get (pc := 36) C zf_X3_33 0 rfl rfl dX3_setLast_36 ?_
    refine g_iconst (pc := 39) C dX3_setLast_39 ?_
    refine g_isub (pc := 40) C dX3_setLast_40 ?_
    refine g_iload_n (pc := 41) C 3 dX3_setLast_41 rfl rfl ?_
    refine g_iast (pc := 42) C (N := 61) (ws' := [((aDy 0), .inr (3, [.ref (aDy 1), .ref (aDy 2), .ref (aDy 3), .ref (aDy 4), .ref (aDy 5), .ref (aDy 6), .ref (aDy 7), .int (zI dy_size)])), ((aDy 3), .inl (ca 0, 61, .inl (zA (zU dy_drive (dy_size - 1).toNat v1)))), ((aDy 4), .inl (ca 0, 61, .inl (zA (zU dy_extended (dy_size - 1).toNat v2)))), ((aDy 6), .inl (ca 0, 61, .inl (zA (zU dy_over (dy_size - 1).toNat v3)))), ((aDy 7), .inl (ca 0, 61, .inl (zA dy_late)))]) 3 rfl rfl (Nat.le_of_ble_eq_true rfl) rfl dX3_setLast_42 hf (fun hf => ?_)
    refine g_aload_n (pc := 43) C 0 dX3_setLast_43 rfl rfl ?_
    refine g_get (pc := 44) C zf_X3_30 0 rfl rfl dX3_setLast_44 ?_
    refine g_aload_n (pc := 47) C 0 dX3_setLast_47 rfl rfl ?_
    refine g_get (pc := 48) C zf_X3_33 0 rfl rfl dX3_setLast_48 ?_
    refine g_iconst (pc := 51) C dX3_setLast_51 ?_
    refine g_isub (pc := 52) C dX3_setLast_52 ?_
    refine g_iload (pc := 53) C 4 dX3_setLast_53 rfl ?_
    refine g_iast (pc := 55) C (N := 61) (ws' := [((aDy 0), .inr (3, [.ref (aDy 1), .ref (aDy 2), .ref (aDy 3), .ref (aDy 4), .ref (aDy 5), .ref (aDy 6), .ref (aDy 7), .int (zI dy_size)])), ((aDy 3), .inl (ca 0, 61, .inl (zA (zU dy_drive (dy_size - 1).toNat v1)))), ((aDy 4), .inl (ca 0, 61, .inl (zA (zU dy_extended (dy_size - 1).toNat v2)))), ((aDy 6), .inl (ca 0, 61, .inl (zA (zU dy_over (dy_size - 1).toNat v3)))), ((aDy 7), .inl (ca 0, 61, .inl (zA (zU dy_late (dy_size - 1).toNat v4))))]) 4 rfl rfl (Nat.le_of_ble_eq_true rfl) rfl dX3_setLast_55 hf (fun hf => ?_)
    exact g_vret (pc := 56) C hf E rfl (fun _ => 0) [0, 1, 2, 3, 4] (by decide) rfl rfl (Nat.le_refl _) (Nat.le_refl _) dX3_setLast_56
def oX3_tell (ca : Nat → ClassId) (aDy : Nat → Nat) (dy_from : Nat → Int) (dy_to : Nat → Int) (dy_drive : Nat → Int) (dy_extended : Nat → Int) (dy_endedBy : Nat → Int) (dy_size : Int) (Ro : Int) : (Nat → Nat) → va_W := fun _ => [((aDy 0), .inr (3, [.ref (aDy 1), .ref (aDy 2), .ref (aDy 3), .ref (aDy 4), .ref (aDy 5), .ref (aDy 6), .ref (aDy 7), .int (zI dy_size)])), ((aDy 1), .inl (ca 0, 61, .inl (zA dy_from))), ((aDy 2), .inl (ca 0, 61, .inl (zA dy_to))), ((aDy 3), .inl (ca 0, 61, .inl (zA dy_drive))), ((aDy 4), .inl (ca 0, 61, .inl (zA dy_extended))), ((aDy 5), .inl (ca 0, 61, .inl (zA dy_endedBy)))]
def oiX3_tell (Ro : Int) : Option Value := (some (.int (zI Ro)))
set_option maxRecDepth 100000 in
theorem kX3_tell (l : Launch) (D : va_G) (ca : Nat → ClassId) (aDy : Nat → Nat) (dy_from : Nat → Int) (dy_to : Nat → Int) (dy_drive : Nat → Int) (dy_extended : Nat → Int) (dy_endedBy : Nat → Int) (dy_size : Int) (v1 : Int) (v2 : Int) (Ro : Int)
    (hf : fX3_tell v1 v2 dy_from dy_to dy_drive dy_extended dy_endedBy dy_size = some Ro) : Zc l D ca yX3_tell cX3_tell 3 (some .int) { frames := 0, cells := 0, slots := 0, locals := 0 } [.ref (aDy 0), .int (zI v1), .int (zI v2)] [((aDy 0), .inr (3, [.ref (aDy 1), .ref (aDy 2), .ref (aDy 3), .ref (aDy 4), .ref (aDy 5), .ref (aDy 6), .ref (aDy 7), .int (zI dy_size)])), ((aDy 1), .inl (ca 0, 61, .inl (zA dy_from))), ((aDy 2), .inl (ca 0, 61, .inl (zA dy_to))), ((aDy 3), .inl (ca 0, 61, .inl (zA dy_drive))), ((aDy 4), .inl (ca 0, 61, .inl (zA dy_extended))), ((aDy 5), .inl (ca 0, 61, .inl (zA dy_endedBy)))] (oiX3_tell Ro) (oX3_tell ca aDy dy_from dy_to dy_drive dy_extended dy_endedBy dy_size Ro) := by
  refine ctr_of (lv := [(0, .ref (aDy 0)), (1, .int (zI v1)), (2, .int (zI v2))]) (by decide +kernel) (Nat.le_of_ble_eq_true rfl) rfl (fun Γ hl0 C E hnm => ?_)
  have H12 : fX3_tell_12 = some Ro → Zd D Γ 0 0 [((aDy 0), .inr (3, [.ref (aDy 1), .ref (aDy 2), .ref (aDy 3), .ref (aDy 4), .ref (aDy 5), .ref (aDy 6), .ref (aDy 7), .int (zI dy_size)])), ((aDy 1), .inl (ca 0, 61, .inl (zA dy_from))), ((aDy 2), .inl (ca 0, 61, .inl (zA dy_to))), ((aDy 3), .inl (ca 0, 61, .inl (zA dy_drive))), ((aDy 4), .inl (ca 0, 61, .inl (zA dy_extended))), ((aDy 5), .inl (ca 0, 61, .inl (zA dy_endedBy)))] 12 [] [] := by
    intro  hf
    unfold fX3_tell_12 at hf
    refine g_iconst (pc := 12) C dX3_tell_12 ?_
    exact g_iret (pc := 13) C hf E rfl (fun _ => 0) [0, 1, 2, 3, 4, 5] (by decide) rfl rfl (Nat.le_refl _) (Nat.le_refl _) dX3_tell_13
  unfold fX3_tell at hf
  refine g_iload_n (pc := 0) C 1 dX3_tell_0 rfl rfl ?_
  refine g_if_lt (pc := 1) C (tgt := 12) dX3_tell_1 (by decide) hf (fun hf => ?_) (fun hf => ?_)
  · refine g_sub [0, 1, 2, 3, 4, 5] [] (by decide) rfl rfl rfl ?_
    exact H12  hf
  · refine g_iload_n (pc := 4) C 1 dX3_tell_4 rfl rfl ?_
    refine g_aload_n (pc := 5) C 0 dX3_tell_5 rfl rfl ?_
    refine g_get (pc := 6) C zf_X3_33 0 rfl rfl dX3_tell_6 ?_
    refine g_icmp_lt (pc := 9) C (tgt := 14) dX3_tell_9 (by decide) hf (fun hf => ?_) (fun hf => ?_)
    · refine g_iload_n (pc := 14) C 2 dX3_tell_14 rfl rfl ?_
      obtain ⟨hx_15, hf⟩ := zck hf
      by_cases hc_15_0 : v2 = 0
      · rw [if_pos hc_15_0] at hf
        refine g_tabIn (pc := 15) C (tgt := 48) dX3_tell_15 hx_15 hc_15_0 (by decide) (by decide) rfl (by decide) ?_
        refine g_aload_n (pc := 48) C 0 dX3_tell_48 rfl rfl ?_
        refine g_get (pc := 49) C zf_X3_11 0 rfl rfl dX3_tell_49 ?_
        refine g_iload_n (pc := 52) C 1 dX3_tell_52 rfl rfl ?_
        refine g_iald (pc := 53) C (N := 61) 1 rfl rfl (Nat.le_of_ble_eq_true rfl) dX3_tell_53 hf (fun hf => ?_)
        exact g_iret (pc := 54) C hf E rfl (fun _ => 0) [0, 1, 2, 3, 4, 5] (by decide) rfl rfl (Nat.le_refl _) (Nat.le_refl _) dX3_tell_54
      · rw [if_neg hc_15_0] at hf
        by_cases hc_15_1 : v2 = 1
        · rw [if_pos hc_15_1] at hf
          refine g_tabIn (pc := 15) C (tgt := 55) dX3_tell_15 hx_15 hc_15_1 (by decide) (by decide) rfl (by decide) ?_
          refine g_aload_n (pc := 55) C 0 dX3_tell_55 rfl rfl ?_
          refine g_get (pc := 56) C zf_X3_15 0 rfl rfl dX3_tell_56 ?_
          refine g_iload_n (pc := 59) C 1 dX3_tell_59 rfl rfl ?_
          refine g_iald (pc := 60) C (N := 61) 2 rfl rfl (Nat.le_of_ble_eq_true rfl) dX3_tell_60 hf (fun hf => ?_)
          exact g_iret (pc := 61) C hf E rfl (fun _ => 0) [0, 1, 2, 3, 4, 5] (by decide) rfl rfl (Nat.le_refl _) (Nat.le_refl _) dX3_tell_61
        · rw [if_neg hc_15_1] at hf
          by_cases hc_15_2 : v2 = 2
          · rw [if_pos hc_15_2] at hf
            refine g_tabIn (pc := 15) C (tgt := 62) dX3_tell_15 hx_15 hc_15_2 (by decide) (by decide) rfl (by decide) ?_
            refine g_aload_n (pc := 62) C 0 dX3_tell_62 rfl rfl ?_
            refine g_get (pc := 63) C zf_X3_18 0 rfl rfl dX3_tell_63 ?_
            refine g_iload_n (pc := 66) C 1 dX3_tell_66 rfl rfl ?_
            refine g_iald (pc := 67) C (N := 61) 3 rfl rfl (Nat.le_of_ble_eq_true rfl) dX3_tell_67 hf (fun hf => ?_)
            exact g_iret (pc := 68) C hf E rfl (fun _ => 0) [0, 1, 2, 3, 4, 5] (by decide) rfl rfl (Nat.le_refl _) (Nat.le_refl _) dX3_tell_68
          · rw [if_neg hc_15_2] at hf
            by_cases hc_15_3 : v2 = 3
            · rw [if_pos hc_15_3] at hf
              refine g_tabIn (pc := 15) C (tgt := 69) dX3_tell_15 hx_15 hc_15_3 (by decide) (by decide) rfl (by decide) ?_
              refine g_aload_n (pc := 69) C 0 dX3_tell_69 rfl rfl ?_
              refine g_get (pc := 70) C zf_X3_21 0 rfl rfl dX3_tell_70 ?_
              refine g_iload_n (pc := 73) C 1 dX3_tell_73 rfl rfl ?_
              refine g_iald (pc := 74) C (N := 61) 4 rfl rfl (Nat.le_of_ble_eq_true rfl) dX3_tell_74 hf (fun hf => ?_)
              exact g_iret (pc := 75) C hf E rfl (fun _ => 0) [0, 1, 2, 3, 4, 5] (by decide) rfl rfl (Nat.le_refl _) (Nat.le_refl _) dX3_tell_75
            · rw [if_neg hc_15_3] at hf
              by_cases hc_15_4 : v2 = 4
              · rw [if_pos hc_15_4] at hf
                refine g_tabIn (pc := 15) C (tgt := 76) dX3_tell_15 hx_15 hc_15_4 (by decide) (by decide) rfl (by decide) ?_
                refine g_aload_n (pc := 76) C 0 dX3_tell_76 rfl rfl ?_
                refine g_get (pc := 77) C zf_X3_24 0 rfl rfl dX3_tell_77 ?_
                refine g_iload_n (pc := 80) C 1 dX3_tell_80 rfl rfl ?_
                refine g_iald (pc := 81) C (N := 61) 5 rfl rfl (Nat.le_of_ble_eq_true rfl) dX3_tell_81 hf (fun hf => ?_)
                exact g_iret (pc := 82) C hf E rfl (fun _ => 0) [0, 1, 2, 3, 4, 5] (by decide) rfl rfl (Nat.le_refl _) (Nat.le_refl _) dX3_tell_82
              · rw [if_neg hc_15_4] at hf
                refine g_tabOut (pc := 15) C (tgt := 83) dX3_tell_15 hx_15 (by omega) (by decide) ?_
                refine g_iconst (pc := 83) C dX3_tell_83 ?_
                exact g_iret (pc := 84) C hf E rfl (fun _ => 0) [0, 1, 2, 3, 4, 5] (by decide) rfl rfl (Nat.le_refl _) (Nat.le_refl _) dX3_tell_84
    · refine g_sub [0, 1, 2, 3, 4, 5] [] (by decide) rfl rfl rfl ?_
      exact H12  hf
def oX3_tellOverAndLate (ca : Nat → ClassId) (aBr : Nat → Nat) (aDy : Nat → Nat) (aLw : Nat → Nat) (aRd : Nat → Nat) (dy_from : Nat → Int) (dy_drive : Nat → Int) (dy_extended : Nat → Int) (dy_over : Nat → Int) (dy_late : Nat → Int) (dy_size : Int) (lw_numbers : Nat → Int) (rd_kind : Nat → Int) (rd_begin : Nat → Int) (rd_acts : Int) (rd_total : Int) (rd_drive : Int) (rd_runs : Int) (Ro : (Nat → Int) × (Nat → Int) × (Nat → Int) × Int) : (Nat → Nat) → va_W := fun _ => [((aBr 0), .inr (0, [.ref (aBr 1), .ref (aBr 2), .ref (aBr 3), .int (zI (Ro.2.2.2))])), ((aBr 1), .inl (ca 0, 185, .inl (zA (Ro.1)))), ((aBr 2), .inl (ca 0, 185, .inl (zA (Ro.2.1)))), ((aBr 3), .inl (ca 0, 185, .inl (zA (Ro.2.2.1)))), ((aDy 0), .inr (3, [.ref (aDy 1), .ref (aDy 2), .ref (aDy 3), .ref (aDy 4), .ref (aDy 5), .ref (aDy 6), .ref (aDy 7), .int (zI dy_size)])), ((aDy 1), .inl (ca 0, 61, .inl (zA dy_from))), ((aDy 3), .inl (ca 0, 61, .inl (zA dy_drive))), ((aDy 4), .inl (ca 0, 61, .inl (zA dy_extended))), ((aDy 6), .inl (ca 0, 61, .inl (zA dy_over))), ((aDy 7), .inl (ca 0, 61, .inl (zA dy_late))), ((aLw 0), .inr (4, [.ref (aLw 1), .ref (aLw 2)])), ((aLw 1), .inl (ca 0, 11, .inl (zA lw_numbers))), ((aRd 0), .inr (6, [.ref (aRd 1), .ref (aRd 2), .ref (aRd 3), .ref (aRd 4), .ref (aRd 5), .int (zI rd_acts), .int (zI rd_total), .int (zI rd_drive), .int (zI rd_runs)])), ((aRd 1), .inl (ca 0, 60, .inl (zA rd_kind))), ((aRd 2), .inl (ca 0, 61, .inl (zA rd_begin)))]
def oiX3_tellOverAndLate (Ro : (Nat → Int) × (Nat → Int) × (Nat → Int) × Int) : Option Value := none
set_option maxRecDepth 100000 in
theorem kX3_tellOverAndLate (l : Launch) (D : va_G) (ca : Nat → ClassId) (aBr : Nat → Nat) (aDy : Nat → Nat) (aLw : Nat → Nat) (aRd : Nat → Nat) (br_minute : Nat → Int) (br_rule : Nat → Int) (br_much : Nat → Int) (br_size : Int) (dy_from : Nat → Int) (dy_drive : Nat → Int) (dy_extended : Nat → Int) (dy_over : Nat → Int) (dy_late : Nat → Int) (dy_size : Int) (lw_numbers : Nat → Int) (rd_kind : Nat → Int) (rd_begin : Nat → Int) (rd_acts : Int) (rd_total : Int) (rd_drive : Int) (rd_runs : Int)  (Ro : (Nat → Int) × (Nat → Int) × (Nat → Int) × Int)
    (hf : fX3_tellOverAndLate br_minute br_rule br_much br_size dy_from dy_drive dy_extended dy_over dy_late dy_size lw_numbers rd_kind rd_begin rd_acts rd_total = some Ro) : Zc l D ca yX3_tellOverAndLate cX3_tellOverAndLate 7 none { frames := 2, cells := 0, slots := 0, locals := 47 } [.ref (aDy 0), .ref (aBr 0), .ref (aLw 0), .ref (aRd 0)] [((aBr 0), .inr (0, [.ref (aBr 1), .ref (aBr 2), .ref (aBr 3), .int (zI br_size)])), ((aBr 1), .inl (ca 0, 185, .inl (zA br_minute))), ((aBr 2), .inl (ca 0, 185, .inl (zA br_rule))), ((aBr 3), .inl (ca 0, 185, .inl (zA br_much))), ((aDy 0), .inr (3, [.ref (aDy 1), .ref (aDy 2), .ref (aDy 3), .ref (aDy 4), .ref (aDy 5), .ref (aDy 6), .ref (aDy 7), .int (zI dy_size)])), ((aDy 1), .inl (ca 0, 61, .inl (zA dy_from))), ((aDy 3), .inl (ca 0, 61, .inl (zA dy_drive))), ((aDy 4), .inl (ca 0, 61, .inl (zA dy_extended))), ((aDy 6), .inl (ca 0, 61, .inl (zA dy_over))), ((aDy 7), .inl (ca 0, 61, .inl (zA dy_late))), ((aLw 0), .inr (4, [.ref (aLw 1), .ref (aLw 2)])), ((aLw 1), .inl (ca 0, 11, .inl (zA lw_numbers))), ((aRd 0), .inr (6, [.ref (aRd 1), .ref (aRd 2), .ref (aRd 3), .ref (aRd 4), .ref (aRd 5), .int (zI rd_acts), .int (zI rd_total), .int (zI rd_drive), .int (zI rd_runs)])), ((aRd 1), .inl (ca 0, 60, .inl (zA rd_kind))), ((aRd 2), .inl (ca 0, 61, .inl (zA rd_begin)))] (oiX3_tellOverAndLate Ro) (oX3_tellOverAndLate ca aBr aDy aLw aRd dy_from dy_drive dy_extended dy_over dy_late dy_size lw_numbers rd_kind rd_begin rd_acts rd_total rd_drive rd_runs Ro) := by
  refine ctr_of (lv := [(0, .ref (aDy 0)), (1, .ref (aBr 0)), (2, .ref (aLw 0)), (3, .ref (aRd 0))]) (by decide +kernel) (Nat.le_of_ble_eq_true rfl) rfl (fun Γ hl0 C E hnm => ?_)
  have H6 : ∀  (n6 : Nat) (v4 : Int) (v5 : Int) (br_minute : Nat → Int) (br_rule : Nat → Int) (br_much : Nat → Int) (br_size : Int), zlp (fX3_tellOverAndLate_6 dy_from dy_drive dy_extended dy_over dy_late dy_size lw_numbers rd_kind rd_begin rd_acts rd_total) n6 (v4, v5, br_minute, br_rule, br_much, br_size) = some Ro → Zd D Γ 0 0 [((aBr 0), .inr (0, [.ref (aBr 1), .ref (aBr 2), .ref (aBr 3), .int (zI br_size)])), ((aBr 1), .inl (ca 0, 185, .inl (zA br_minute))), ((aBr 2), .inl (ca 0, 185, .inl (zA br_rule))), ((aBr 3), .inl (ca 0, 185, .inl (zA br_much))), ((aDy 0), .inr (3, [.ref (aDy 1), .ref (aDy 2), .ref (aDy 3), .ref (aDy 4), .ref (aDy 5), .ref (aDy 6), .ref (aDy 7), .int (zI dy_size)])), ((aDy 1), .inl (ca 0, 61, .inl (zA dy_from))), ((aDy 3), .inl (ca 0, 61, .inl (zA dy_drive))), ((aDy 4), .inl (ca 0, 61, .inl (zA dy_extended))), ((aDy 6), .inl (ca 0, 61, .inl (zA dy_over))), ((aDy 7), .inl (ca 0, 61, .inl (zA dy_late))), ((aLw 0), .inr (4, [.ref (aLw 1), .ref (aLw 2)])), ((aLw 1), .inl (ca 0, 11, .inl (zA lw_numbers))), ((aRd 0), .inr (6, [.ref (aRd 1), .ref (aRd 2), .ref (aRd 3), .ref (aRd 4), .ref (aRd 5), .int (zI rd_acts), .int (zI rd_total), .int (zI rd_drive), .int (zI rd_runs)])), ((aRd 1), .inl (ca 0, 60, .inl (zA rd_kind))), ((aRd 2), .inl (ca 0, 61, .inl (zA rd_begin)))] 6 [(0, .ref (aDy 0)), (1, .ref (aBr 0)), (2, .ref (aLw 0)), (3, .ref (aRd 0)), (4, .int (zI v4)), (5, .int (zI v5))] [] := by
    intro n6
    induction n6 with
    | zero =>
      intro v4 v5 br_minute br_rule br_much br_size hf
      exact zno hf
    | succ n6 ih6 =>
      have H102 : ∀ (v4 : Int) (v5 : Int) (br_minute : Nat → Int) (br_rule : Nat → Int) (br_much : Nat → Int) (br_size : Int), fX3_tellOverAndLate_102 (zlp (fX3_tellOverAndLate_6 dy_from dy_drive dy_extended dy_over dy_late dy_size lw_numbers rd_kind rd_begin rd_acts rd_total) n6) v4 v5 br_minute br_rule br_much br_size dy_drive = some Ro → Zd D Γ 0 0 [((aBr 0), .inr (0, [.ref (aBr 1), .ref (aBr 2), .ref (aBr 3), .int (zI br_size)])), ((aBr 1), .inl (ca 0, 185, .inl (zA br_minute))), ((aBr 2), .inl (ca 0, 185, .inl (zA br_rule))), ((aBr 3), .inl (ca 0, 185, .inl (zA br_much))), ((aDy 0), .inr (3, [.ref (aDy 1), .ref (aDy 2), .ref (aDy 3), .ref (aDy 4), .ref (aDy 5), .ref (aDy 6), .ref (aDy 7), .int (zI dy_size)])), ((aDy 1), .inl (ca 0, 61, .inl (zA dy_from))), ((aDy 3), .inl (ca 0, 61, .inl (zA dy_drive))), ((aDy 4), .inl (ca 0, 61, .inl (zA dy_extended))), ((aDy 6), .inl (ca 0, 61, .inl (zA dy_over))), ((aDy 7), .inl (ca 0, 61, .inl (zA dy_late))), ((aLw 0), .inr (4, [.ref (aLw 1), .ref (aLw 2)])), ((aLw 1), .inl (ca 0, 11, .inl (zA lw_numbers))), ((aRd 0), .inr (6, [.ref (aRd 1), .ref (aRd 2), .ref (aRd 3), .ref (aRd 4), .ref (aRd 5), .int (zI rd_acts), .int (zI rd_total), .int (zI rd_drive), .int (zI rd_runs)])), ((aRd 1), .inl (ca 0, 60, .inl (zA rd_kind))), ((aRd 2), .inl (ca 0, 61, .inl (zA rd_begin)))] 102 [(0, .ref (aDy 0)), (1, .ref (aBr 0)), (2, .ref (aLw 0)), (3, .ref (aRd 0)), (4, .int (zI v4)), (5, .int (zI v5))] [] := by
        intro v4 v5 br_minute br_rule br_much br_size hf
        unfold fX3_tellOverAndLate_102 at hf
        refine g_iload (pc := 102) C 4 dX3_tellOverAndLate_102 rfl ?_
        refine g_aload_n (pc := 104) C 0 dX3_tellOverAndLate_104 rfl rfl ?_
        refine g_get (pc := 105) C zf_X3_18 4 rfl rfl dX3_tellOverAndLate_105 ?_
        refine g_iload (pc := 108) C 5 dX3_tellOverAndLate_108 rfl ?_
        refine g_iald (pc := 110) C (N := 61) 6 rfl rfl (Nat.le_of_ble_eq_true rfl) dX3_tellOverAndLate_110 hf (fun hf => ?_)
        refine g_iadd (pc := 111) C dX3_tellOverAndLate_111 ?_
        refine g_istore (pc := 112) C (lv' := [(4, .int (zI (v4 + (dy_drive v5.toNat)))), (0, .ref (aDy 0)), (1, .ref (aBr 0)), (2, .ref (aLw 0)), (3, .ref (aRd 0)), (5, .int (zI v5))]) dX3_tellOverAndLate_112 (Nat.le_of_ble_eq_true rfl) rfl ?_
        refine g_iinc (pc := 114) C 5 (lv' := [(5, .int (zI (v5 + 1))), (4, .int (zI (v4 + (dy_drive v5.toNat)))), (0, .ref (aDy 0)), (1, .ref (aBr 0)), (2, .ref (aLw 0)), (3, .ref (aRd 0))]) dX3_tellOverAndLate_114 rfl (Nat.le_of_ble_eq_true rfl) rfl ?_
        refine g_goto (pc := 117) C (tgt := 6) dX3_tellOverAndLate_117 (by decide) ?_
        refine g_sub [0, 1, 2, 3, 4, 5, 6, 7, 8, 9, 10, 11, 12, 13, 14] [2, 3, 4, 5, 1, 0] (by decide) rfl rfl rfl ?_
        exact ih6 _ _ _ _ _ _ hf
      have H69 : ∀ (v4 : Int) (v5 : Int) (br_minute : Nat → Int) (br_rule : Nat → Int) (br_much : Nat → Int) (br_size : Int), fX3_tellOverAndLate_69 (zlp (fX3_tellOverAndLate_6 dy_from dy_drive dy_extended dy_over dy_late dy_size lw_numbers rd_kind rd_begin rd_acts rd_total) n6) v4 v5 br_minute br_rule br_much br_size dy_from dy_drive dy_late = some Ro → Zd D Γ 0 0 [((aBr 0), .inr (0, [.ref (aBr 1), .ref (aBr 2), .ref (aBr 3), .int (zI br_size)])), ((aBr 1), .inl (ca 0, 185, .inl (zA br_minute))), ((aBr 2), .inl (ca 0, 185, .inl (zA br_rule))), ((aBr 3), .inl (ca 0, 185, .inl (zA br_much))), ((aDy 0), .inr (3, [.ref (aDy 1), .ref (aDy 2), .ref (aDy 3), .ref (aDy 4), .ref (aDy 5), .ref (aDy 6), .ref (aDy 7), .int (zI dy_size)])), ((aDy 1), .inl (ca 0, 61, .inl (zA dy_from))), ((aDy 3), .inl (ca 0, 61, .inl (zA dy_drive))), ((aDy 4), .inl (ca 0, 61, .inl (zA dy_extended))), ((aDy 6), .inl (ca 0, 61, .inl (zA dy_over))), ((aDy 7), .inl (ca 0, 61, .inl (zA dy_late))), ((aLw 0), .inr (4, [.ref (aLw 1), .ref (aLw 2)])), ((aLw 1), .inl (ca 0, 11, .inl (zA lw_numbers))), ((aRd 0), .inr (6, [.ref (aRd 1), .ref (aRd 2), .ref (aRd 3), .ref (aRd 4), .ref (aRd 5), .int (zI rd_acts), .int (zI rd_total), .int (zI rd_drive), .int (zI rd_runs)])), ((aRd 1), .inl (ca 0, 60, .inl (zA rd_kind))), ((aRd 2), .inl (ca 0, 61, .inl (zA rd_begin)))] 69 [(0, .ref (aDy 0)), (1, .ref (aBr 0)), (2, .ref (aLw 0)), (3, .ref (aRd 0)), (4, .int (zI v4)), (5, .int (zI v5))] [] := by
        intro v4 v5 br_minute br_rule br_much br_size hf
        unfold fX3_tellOverAndLate_69 at hf
        refine g_aload_n (pc := 69) C 0 dX3_tellOverAndLate_69 rfl rfl ?_
        refine g_get (pc := 70) C zf_X3_30 4 rfl rfl dX3_tellOverAndLate_70 ?_
        refine g_iload (pc := 73) C 5 dX3_tellOverAndLate_73 rfl ?_
        refine g_iald (pc := 75) C (N := 61) 9 rfl rfl (Nat.le_of_ble_eq_true rfl) dX3_tellOverAndLate_75 hf (fun hf => ?_)
        refine g_if_le (pc := 76) C (tgt := 102) dX3_tellOverAndLate_76 (by decide) hf (fun hf => ?_) (fun hf => ?_)
        · exact H102 _ _ _ _ _ _ hf
        · refine g_aload_n (pc := 79) C 1 dX3_tellOverAndLate_79 rfl rfl ?_
          refine g_aload_n (pc := 80) C 0 dX3_tellOverAndLate_80 rfl rfl ?_
          refine g_get (pc := 81) C zf_X3_11 4 rfl rfl dX3_tellOverAndLate_81 ?_
          refine g_iload (pc := 84) C 5 dX3_tellOverAndLate_84 rfl ?_
          refine g_iald (pc := 86) C (N := 61) 5 rfl rfl (Nat.le_of_ble_eq_true rfl) dX3_tellOverAndLate_86 hf (fun hf => ?_)
          refine g_sipush (pc := 87) C dX3_tellOverAndLate_87 (by decide) ?_
          refine g_iadd (pc := 90) C dX3_tellOverAndLate_90 ?_
          refine g_iconst (pc := 91) C dX3_tellOverAndLate_91 ?_
          refine g_aload_n (pc := 92) C 0 dX3_tellOverAndLate_92 rfl rfl ?_
          refine g_get (pc := 93) C zf_X3_30 4 rfl rfl dX3_tellOverAndLate_93 ?_
          refine g_iload (pc := 96) C 5 dX3_tellOverAndLate_96 rfl ?_
          refine g_iald (pc := 98) C (N := 61) 9 rfl rfl (Nat.le_of_ble_eq_true rfl) dX3_tellOverAndLate_98 hf (fun hf => ?_)
          obtain ⟨⟨br_minute_99, br_rule_99, br_much_99, br_size_99⟩, hc_99, hf⟩ := Option.bind_eq_some_iff.mp hf
          dsimp only at hf
          refine g_callV (pc := 99) C hl0 (wr := [((aDy 0), .inr (3, [.ref (aDy 1), .ref (aDy 2), .ref (aDy 3), .ref (aDy 4), .ref (aDy 5), .ref (aDy 6), .ref (aDy 7), .int (zI dy_size)])), ((aDy 1), .inl (ca 0, 61, .inl (zA dy_from))), ((aDy 3), .inl (ca 0, 61, .inl (zA dy_drive))), ((aDy 4), .inl (ca 0, 61, .inl (zA dy_extended))), ((aDy 6), .inl (ca 0, 61, .inl (zA dy_over))), ((aDy 7), .inl (ca 0, 61, .inl (zA dy_late))), ((aLw 0), .inr (4, [.ref (aLw 1), .ref (aLw 2)])), ((aLw 1), .inl (ca 0, 11, .inl (zA lw_numbers))), ((aRd 0), .inr (6, [.ref (aRd 1), .ref (aRd 2), .ref (aRd 3), .ref (aRd 4), .ref (aRd 5), .int (zI rd_acts), .int (zI rd_total), .int (zI rd_drive), .int (zI rd_runs)])), ((aRd 1), .inl (ca 0, 60, .inl (zA rd_kind))), ((aRd 2), .inl (ca 0, 61, .inl (zA rd_begin)))]) (k' := 0) (n' := 0) (ws' := fun _ => [((aDy 0), .inr (3, [.ref (aDy 1), .ref (aDy 2), .ref (aDy 3), .ref (aDy 4), .ref (aDy 5), .ref (aDy 6), .ref (aDy 7), .int (zI dy_size)])), ((aDy 1), .inl (ca 0, 61, .inl (zA dy_from))), ((aDy 3), .inl (ca 0, 61, .inl (zA dy_drive))), ((aDy 4), .inl (ca 0, 61, .inl (zA dy_extended))), ((aDy 6), .inl (ca 0, 61, .inl (zA dy_over))), ((aDy 7), .inl (ca 0, 61, .inl (zA dy_late))), ((aLw 0), .inr (4, [.ref (aLw 1), .ref (aLw 2)])), ((aLw 1), .inl (ca 0, 11, .inl (zA lw_numbers))), ((aRd 0), .inr (6, [.ref (aRd 1), .ref (aRd 2), .ref (aRd 3), .ref (aRd 4), .ref (aRd 5), .int (zI rd_acts), .int (zI rd_total), .int (zI rd_drive), .int (zI rd_runs)])), ((aRd 1), .inl (ca 0, 60, .inl (zA rd_kind))), ((aRd 2), .inl (ca 0, 61, .inl (zA rd_begin))), ((aBr 0), .inr (0, [.ref (aBr 1), .ref (aBr 2), .ref (aBr 3), .int (zI br_size_99)])), ((aBr 1), .inl (ca 0, 185, .inl (zA br_minute_99))), ((aBr 2), .inl (ca 0, 185, .inl (zA br_rule_99))), ((aBr 3), .inl (ca 0, 185, .inl (zA br_much_99)))]) (st' := []) (kX0_insert l D ca aBr br_minute br_rule br_much br_size ((dy_from v5.toNat) + 1440) 3 (dy_late v5.toNat) (br_minute_99, br_rule_99, br_much_99, br_size_99) hc_99) wml_RX3_48 wim_X0_insert wse_X0_insert win_RX0 wco_X0_insert (nA := 3) rfl (by decide +kernel)  ⟨(Nat.le_of_ble_eq_true rfl), (Nat.le_of_ble_eq_true rfl)⟩ (Nat.le_refl _) (Nat.le_refl _) rfl (Nat.le_of_ble_eq_true rfl) dX3_tellOverAndLate_99 0 0 rfl rfl rfl [0, 1, 2, 3] [4, 5, 6, 7, 8, 9, 10, 11, 12, 13, 14] rfl rfl rfl (by decide) (by decide) (by decide) rfl rfl (fun _ => rfl) rfl (fun _ => ?_)
          refine g_sub [11, 12, 13, 14, 0, 1, 2, 3, 4, 5, 6, 7, 8, 9, 10] [0, 1, 2, 3, 4, 5] (by decide) rfl rfl rfl ?_
          exact H102 _ _ _ _ _ _ hf
      have H45 : ∀ (v4 : Int) (v5 : Int) (s1 : Int) (br_minute : Nat → Int) (br_rule : Nat → Int) (br_much : Nat → Int) (br_size : Int), fX3_tellOverAndLate_45 (zlp (fX3_tellOverAndLate_6 dy_from dy_drive dy_extended dy_over dy_late dy_size lw_numbers rd_kind rd_begin rd_acts rd_total) n6) v4 v5 s1 br_minute br_rule br_much br_size dy_from dy_drive dy_over dy_late lw_numbers rd_kind rd_begin rd_acts rd_total = some Ro → Zd D Γ 0 0 [((aBr 0), .inr (0, [.ref (aBr 1), .ref (aBr 2), .ref (aBr 3), .int (zI br_size)])), ((aBr 1), .inl (ca 0, 185, .inl (zA br_minute))), ((aBr 2), .inl (ca 0, 185, .inl (zA br_rule))), ((aBr 3), .inl (ca 0, 185, .inl (zA br_much))), ((aDy 0), .inr (3, [.ref (aDy 1), .ref (aDy 2), .ref (aDy 3), .ref (aDy 4), .ref (aDy 5), .ref (aDy 6), .ref (aDy 7), .int (zI dy_size)])), ((aDy 1), .inl (ca 0, 61, .inl (zA dy_from))), ((aDy 3), .inl (ca 0, 61, .inl (zA dy_drive))), ((aDy 4), .inl (ca 0, 61, .inl (zA dy_extended))), ((aDy 6), .inl (ca 0, 61, .inl (zA dy_over))), ((aDy 7), .inl (ca 0, 61, .inl (zA dy_late))), ((aLw 0), .inr (4, [.ref (aLw 1), .ref (aLw 2)])), ((aLw 1), .inl (ca 0, 11, .inl (zA lw_numbers))), ((aRd 0), .inr (6, [.ref (aRd 1), .ref (aRd 2), .ref (aRd 3), .ref (aRd 4), .ref (aRd 5), .int (zI rd_acts), .int (zI rd_total), .int (zI rd_drive), .int (zI rd_runs)])), ((aRd 1), .inl (ca 0, 60, .inl (zA rd_kind))), ((aRd 2), .inl (ca 0, 61, .inl (zA rd_begin)))] 45 [(0, .ref (aDy 0)), (1, .ref (aBr 0)), (2, .ref (aLw 0)), (3, .ref (aRd 0)), (4, .int (zI v4)), (5, .int (zI v5))] [.int (zI s1), .ref (aLw 1)] := by
        intro v4 v5 s1 br_minute br_rule br_much br_size hf
        unfold fX3_tellOverAndLate_45 at hf
        refine g_iald (pc := 45) C (N := 11) 11 rfl rfl (Nat.le_of_ble_eq_true rfl) dX3_tellOverAndLate_45 hf (fun hf => ?_)
        refine g_istore (pc := 46) C (lv' := [(6, .int (zI (lw_numbers s1.toNat))), (0, .ref (aDy 0)), (1, .ref (aBr 0)), (2, .ref (aLw 0)), (3, .ref (aRd 0)), (4, .int (zI v4)), (5, .int (zI v5))]) dX3_tellOverAndLate_46 (Nat.le_of_ble_eq_true rfl) rfl ?_
        refine g_aload_n (pc := 48) C 2 dX3_tellOverAndLate_48 rfl rfl ?_
        refine g_aload_n (pc := 49) C 4 dX3_tellOverAndLate_49 rfl rfl ?_
        refine g_iload (pc := 50) C 5 dX3_tellOverAndLate_50 rfl ?_
        refine g_iload (pc := 52) C 0 dX3_tellOverAndLate_52 rfl ?_
        refine g_iadd (pc := 54) C dX3_tellOverAndLate_54 ?_
        obtain ⟨r_55, hc_55, hf⟩ := Option.bind_eq_some_iff.mp hf
        refine g_callV (pc := 55) C hl0 (wr := [((aBr 0), .inr (0, [.ref (aBr 1), .ref (aBr 2), .ref (aBr 3), .int (zI br_size)])), ((aBr 1), .inl (ca 0, 185, .inl (zA br_minute))), ((aBr 2), .inl (ca 0, 185, .inl (zA br_rule))), ((aBr 3), .inl (ca 0, 185, .inl (zA br_much))), ((aDy 0), .inr (3, [.ref (aDy 1), .ref (aDy 2), .ref (aDy 3), .ref (aDy 4), .ref (aDy 5), .ref (aDy 6), .ref (aDy 7), .int (zI dy_size)])), ((aDy 1), .inl (ca 0, 61, .inl (zA dy_from))), ((aDy 3), .inl (ca 0, 61, .inl (zA dy_drive))), ((aDy 4), .inl (ca 0, 61, .inl (zA dy_extended))), ((aDy 6), .inl (ca 0, 61, .inl (zA dy_over))), ((aDy 7), .inl (ca 0, 61, .inl (zA dy_late))), ((aLw 0), .inr (4, [.ref (aLw 1), .ref (aLw 2)])), ((aLw 1), .inl (ca 0, 11, .inl (zA lw_numbers)))]) (k' := 0) (n' := 0) (ws' := fun _ => [((aBr 0), .inr (0, [.ref (aBr 1), .ref (aBr 2), .ref (aBr 3), .int (zI br_size)])), ((aBr 1), .inl (ca 0, 185, .inl (zA br_minute))), ((aBr 2), .inl (ca 0, 185, .inl (zA br_rule))), ((aBr 3), .inl (ca 0, 185, .inl (zA br_much))), ((aDy 0), .inr (3, [.ref (aDy 1), .ref (aDy 2), .ref (aDy 3), .ref (aDy 4), .ref (aDy 5), .ref (aDy 6), .ref (aDy 7), .int (zI dy_size)])), ((aDy 1), .inl (ca 0, 61, .inl (zA dy_from))), ((aDy 3), .inl (ca 0, 61, .inl (zA dy_drive))), ((aDy 4), .inl (ca 0, 61, .inl (zA dy_extended))), ((aDy 6), .inl (ca 0, 61, .inl (zA dy_over))), ((aDy 7), .inl (ca 0, 61, .inl (zA dy_late))), ((aLw 0), .inr (4, [.ref (aLw 1), .ref (aLw 2)])), ((aLw 1), .inl (ca 0, 11, .inl (zA lw_numbers))), ((aRd 0), .inr (6, [.ref (aRd 1), .ref (aRd 2), .ref (aRd 3), .ref (aRd 4), .ref (aRd 5), .int (zI rd_acts), .int (zI rd_total), .int (zI rd_drive), .int (zI rd_runs)])), ((aRd 1), .inl (ca 0, 60, .inl (zA rd_kind))), ((aRd 2), .inl (ca 0, 61, .inl (zA rd_begin)))]) (st' := [.int (zI r_55), .ref (aBr 0)]) (kX6_driveMinute l D ca aRd rd_kind rd_begin rd_acts rd_total rd_drive rd_runs (v4 + (lw_numbers s1.toNat)) r_55 hc_55) wml_RX3_42 wim_X6_driveMinute wse_X6_driveMinute win_RX6 wco_X6_driveMinute (nA := 1) rfl (by decide +kernel)  ⟨(Nat.le_of_ble_eq_true rfl), (Nat.le_of_ble_eq_true rfl)⟩ (Nat.le_refl _) (Nat.le_refl _) rfl (Nat.le_of_ble_eq_true rfl) dX3_tellOverAndLate_55 12 6 rfl rfl rfl [12, 13, 14] [0, 1, 2, 3, 4, 5, 6, 7, 8, 9, 10, 11] rfl rfl rfl (by decide) (by decide) (by decide) rfl rfl (fun _ => rfl) rfl (fun _ => ?_)
        refine g_iconst (pc := 58) C dX3_tellOverAndLate_58 ?_
        refine g_aload_n (pc := 59) C 1 dX3_tellOverAndLate_59 rfl rfl ?_
        refine g_get (pc := 60) C zf_X3_27 4 rfl rfl dX3_tellOverAndLate_60 ?_
        refine g_iload (pc := 63) C 6 dX3_tellOverAndLate_63 rfl ?_
        refine g_iald (pc := 65) C (N := 61) 8 rfl rfl (Nat.le_of_ble_eq_true rfl) dX3_tellOverAndLate_65 hf (fun hf => ?_)
        obtain ⟨⟨br_minute_66, br_rule_66, br_much_66, br_size_66⟩, hc_66, hf⟩ := Option.bind_eq_some_iff.mp hf
        dsimp only at hf
        refine g_callV (pc := 66) C hl0 (wr := [((aDy 0), .inr (3, [.ref (aDy 1), .ref (aDy 2), .ref (aDy 3), .ref (aDy 4), .ref (aDy 5), .ref (aDy 6), .ref (aDy 7), .int (zI dy_size)])), ((aDy 1), .inl (ca 0, 61, .inl (zA dy_from))), ((aDy 3), .inl (ca 0, 61, .inl (zA dy_drive))), ((aDy 4), .inl (ca 0, 61, .inl (zA dy_extended))), ((aDy 6), .inl (ca 0, 61, .inl (zA dy_over))), ((aDy 7), .inl (ca 0, 61, .inl (zA dy_late))), ((aLw 0), .inr (4, [.ref (aLw 1), .ref (aLw 2)])), ((aLw 1), .inl (ca 0, 11, .inl (zA lw_numbers))), ((aRd 0), .inr (6, [.ref (aRd 1), .ref (aRd 2), .ref (aRd 3), .ref (aRd 4), .ref (aRd 5), .int (zI rd_acts), .int (zI rd_total), .int (zI rd_drive), .int (zI rd_runs)])), ((aRd 1), .inl (ca 0, 60, .inl (zA rd_kind))), ((aRd 2), .inl (ca 0, 61, .inl (zA rd_begin)))]) (k' := 0) (n' := 0) (ws' := fun _ => [((aDy 0), .inr (3, [.ref (aDy 1), .ref (aDy 2), .ref (aDy 3), .ref (aDy 4), .ref (aDy 5), .ref (aDy 6), .ref (aDy 7), .int (zI dy_size)])), ((aDy 1), .inl (ca 0, 61, .inl (zA dy_from))), ((aDy 3), .inl (ca 0, 61, .inl (zA dy_drive))), ((aDy 4), .inl (ca 0, 61, .inl (zA dy_extended))), ((aDy 6), .inl (ca 0, 61, .inl (zA dy_over))), ((aDy 7), .inl (ca 0, 61, .inl (zA dy_late))), ((aLw 0), .inr (4, [.ref (aLw 1), .ref (aLw 2)])), ((aLw 1), .inl (ca 0, 11, .inl (zA lw_numbers))), ((aRd 0), .inr (6, [.ref (aRd 1), .ref (aRd 2), .ref (aRd 3), .ref (aRd 4), .ref (aRd 5), .int (zI rd_acts), .int (zI rd_total), .int (zI rd_drive), .int (zI rd_runs)])), ((aRd 1), .inl (ca 0, 60, .inl (zA rd_kind))), ((aRd 2), .inl (ca 0, 61, .inl (zA rd_begin))), ((aBr 0), .inr (0, [.ref (aBr 1), .ref (aBr 2), .ref (aBr 3), .int (zI br_size_66)])), ((aBr 1), .inl (ca 0, 185, .inl (zA br_minute_66))), ((aBr 2), .inl (ca 0, 185, .inl (zA br_rule_66))), ((aBr 3), .inl (ca 0, 185, .inl (zA br_much_66)))]) (st' := []) (kX0_insert l D ca aBr br_minute br_rule br_much br_size r_55 2 (dy_over v5.toNat) (br_minute_66, br_rule_66, br_much_66, br_size_66) hc_66) wml_RX3_48 wim_X0_insert wse_X0_insert win_RX0 wco_X0_insert (nA := 3) rfl (by decide +kernel)  ⟨(Nat.le_of_ble_eq_true rfl), (Nat.le_of_ble_eq_true rfl)⟩ (Nat.le_refl _) (Nat.le_refl _) rfl (Nat.le_of_ble_eq_true rfl) dX3_tellOverAndLate_66 0 0 rfl rfl rfl [0, 1, 2, 3] [4, 5, 6, 7, 8, 9, 10, 11, 12, 13, 14] rfl rfl rfl (by decide) (by decide) (by decide) rfl rfl (fun _ => rfl) rfl (fun _ => ?_)
        refine g_sub [11, 12, 13, 14, 0, 1, 2, 3, 4, 5, 6, 7, 8, 9, 10] [1, 2, 3, 4, 5, 6] (by decide) rfl rfl rfl ?_
        exact H69 _ _ _ _ _ _ hf
      intro v4 v5 br_minute br_rule br_much br_size hf
      rw [zlp_s] at hf
      unfold fX3_tellOverAndLate_6 at hf
      dsimp only at hf
      refine g_iload (pc := 6) C 5 dX3_tellOverAndLate_6 rfl ?_
      refine g_aload_n (pc := 8) C 0 dX3_tellOverAndLate_8 rfl rfl ?_
      refine g_get (pc := 9) C zf_X3_33 4 rfl rfl dX3_tellOverAndLate_9 ?_
      refine g_icmp_ge (pc := 12) C (tgt := 120) dX3_tellOverAndLate_12 (by decide) hf (fun hf => ?_) (fun hf => ?_)
      · exact g_vret (pc := 120) C hf E rfl (fun _ => 0) [0, 1, 2, 3, 4, 5, 6, 7, 8, 9, 10, 11, 12, 13, 14] (by decide) rfl rfl (Nat.le_refl _) (Nat.le_refl _) dX3_tellOverAndLate_120
      · refine g_aload_n (pc := 15) C 0 dX3_tellOverAndLate_15 rfl rfl ?_
        refine g_get (pc := 16) C zf_X3_27 4 rfl rfl dX3_tellOverAndLate_16 ?_
        refine g_iload (pc := 19) C 5 dX3_tellOverAndLate_19 rfl ?_
        refine g_iald (pc := 21) C (N := 61) 8 rfl rfl (Nat.le_of_ble_eq_true rfl) dX3_tellOverAndLate_21 hf (fun hf => ?_)
        refine g_if_le (pc := 22) C (tgt := 69) dX3_tellOverAndLate_22 (by decide) hf (fun hf => ?_) (fun hf => ?_)
        · exact H69 _ _ _ _ _ _ hf
        · refine g_aload_n (pc := 25) C 2 dX3_tellOverAndLate_25 rfl rfl ?_
          refine g_get (pc := 26) C zf_X3_37 10 rfl rfl dX3_tellOverAndLate_26 ?_
          refine g_aload_n (pc := 29) C 0 dX3_tellOverAndLate_29 rfl rfl ?_
          refine g_get (pc := 30) C zf_X3_21 4 rfl rfl dX3_tellOverAndLate_30 ?_
          refine g_iload (pc := 33) C 5 dX3_tellOverAndLate_33 rfl ?_
          refine g_iald (pc := 35) C (N := 61) 7 rfl rfl (Nat.le_of_ble_eq_true rfl) dX3_tellOverAndLate_35 hf (fun hf => ?_)
          refine g_iconst (pc := 36) C dX3_tellOverAndLate_36 ?_
          refine g_icmp_ner (pc := 37) C (tgt := 44) dX3_tellOverAndLate_37 (by decide) (by decide) hf (fun hf => ?_) (fun hf => ?_)
          · refine g_iconst (pc := 44) C dX3_tellOverAndLate_44 ?_
            exact H45 _ _ _ _ _ _ _ hf
          · refine g_iconst (pc := 40) C dX3_tellOverAndLate_40 ?_
            refine g_goto (pc := 41) C (tgt := 45) dX3_tellOverAndLate_41 (by decide) ?_
            exact H45 _ _ _ _ _ _ _ hf
  unfold fX3_tellOverAndLate at hf
  refine g_iconst (pc := 0) C dX3_tellOverAndLate_0 ?_
  refine g_istore (pc := 1) C (lv' := [(4, .int (zI 0)), (0, .ref (aDy 0)), (1, .ref (aBr 0)), (2, .ref (aLw 0)), (3, .ref (aRd 0))]) dX3_tellOverAndLate_1 (Nat.le_of_ble_eq_true rfl) rfl ?_
  refine g_iconst (pc := 3) C dX3_tellOverAndLate_3 ?_
  refine g_istore (pc := 4) C (lv' := [(5, .int (zI 0)), (4, .int (zI 0)), (0, .ref (aDy 0)), (1, .ref (aBr 0)), (2, .ref (aLw 0)), (3, .ref (aRd 0))]) dX3_tellOverAndLate_4 (Nat.le_of_ble_eq_true rfl) rfl ?_
  refine g_sub [0, 1, 2, 3, 4, 5, 6, 7, 8, 9, 10, 11, 12, 13, 14] [2, 3, 4, 5, 1, 0] (by decide) rfl rfl rfl ?_
  exact H6 _ _ _ _ _ _ _ hf
def oX2_addMinutes (ca : Nat → ClassId) (aCp : Nat → Nat) (cp_tripAt : Int) (cp_next : Int) (Ro : Int × Int × Int) : (Nat → Nat) → va_W := fun _ => [((aCp 0), .inr (2, [.ref (aCp 1), .int (zI cp_tripAt), .int (zI cp_next), .int (zI (Ro.1)), .int (zI (Ro.2.1)), .int (zI (Ro.2.2))]))]
def oiX2_addMinutes (Ro : Int × Int × Int) : Option Value := none
set_option maxRecDepth 100000 in
theorem kX2_addMinutes (l : Launch) (D : va_G) (ca : Nat → ClassId) (aCp : Nat → Nat) (cp_tripAt : Int) (cp_next : Int) (cp_withoutCard : Int) (cp_withMoreCards : Int) (cp_withoutTrip : Int) (v1 : Int) (v2 : Int) (v3 : Int) (Ro : Int × Int × Int)
    (hf : fX2_addMinutes v1 v2 v3 cp_withoutCard cp_withMoreCards cp_withoutTrip = some Ro) : Zc l D ca yX2_addMinutes cX2_addMinutes 4 none { frames := 0, cells := 0, slots := 0, locals := 0 } [.ref (aCp 0), .int (zI v1), .int (zI v2), .int (zI v3)] [((aCp 0), .inr (2, [.ref (aCp 1), .int (zI cp_tripAt), .int (zI cp_next), .int (zI cp_withoutCard), .int (zI cp_withMoreCards), .int (zI cp_withoutTrip)]))] (oiX2_addMinutes Ro) (oX2_addMinutes ca aCp cp_tripAt cp_next Ro) := by
  refine ctr_of (lv := [(0, .ref (aCp 0)), (1, .int (zI v1)), (2, .int (zI v2)), (3, .int (zI v3))]) (by decide +kernel) (Nat.le_of_ble_eq_true rfl) rfl (fun Γ hl0 C E hnm => ?_)
  have H33 : ∀ (cp_withoutCard : Int) (cp_withMoreCards : Int) (cp_withoutTrip : Int), fX2_addMinutes_33 v1 v2 v3 cp_withoutCard cp_withMoreCards cp_withoutTrip = some Ro → Zd D Γ 0 0 [((aCp 0), .inr (2, [.ref (aCp 1), .int (zI cp_tripAt), .int (zI cp_next), .int (zI cp_withoutCard), .int (zI cp_withMoreCards), .int (zI cp_withoutTrip)]))] 33 [(0, .ref (aCp 0)), (1, .int (zI v1)), (2, .int (zI v2)), (3, .int (zI v3))] [] := by
    intro cp_withoutCard cp_withMoreCards cp_withoutTrip hf
    unfold fX2_addMinutes_33 at hf
    refine g_iload_n (pc := 33) C 2 dX2_addMinutes_33 rfl rfl ?_
    refine g_iconst (pc := 34) C dX2_addMinutes_34 ?_
    refine g_icmp_ltr (pc := 35) C (tgt := 52) dX2_addMinutes_35 (by decide) (by decide) hf (fun hf => ?_) (fun hf => ?_)
    · exact g_vret (pc := 52) C hf E rfl (fun _ => 0) [0] (by decide) rfl rfl (Nat.le_refl _) (Nat.le_refl _) dX2_addMinutes_52
    · refine g_iload_n (pc := 38) C 3 dX2_addMinutes_38 rfl rfl ?_
      refine g_if_ne (pc := 39) C (tgt := 52) dX2_addMinutes_39 (by decide) hf (fun hf => ?_) (fun hf => ?_)
      · exact g_vret (pc := 52) C hf E rfl (fun _ => 0) [0] (by decide) rfl rfl (Nat.le_refl _) (Nat.le_refl _) dX2_addMinutes_52
      · refine g_aload_n (pc := 42) C 0 dX2_addMinutes_42 rfl rfl ?_
        refine g_dup (pc := 43) C dX2_addMinutes_43 rfl ?_
        refine g_get (pc := 44) C zf_X2_30 0 rfl rfl dX2_addMinutes_44 ?_
        refine g_iload_n (pc := 47) C 1 dX2_addMinutes_47 rfl rfl ?_
        refine g_iadd (pc := 48) C dX2_addMinutes_48 ?_
        refine g_put (pc := 49) C zf_X2_30 tyX2 tyX2_ok nmX2 (v := .int (zI (cp_withoutTrip + v1))) (ws' := [((aCp 0), .inr (2, [.ref (aCp 1), .int (zI cp_tripAt), .int (zI cp_next), .int (zI cp_withoutCard), .int (zI cp_withMoreCards), .int (zI (cp_withoutTrip + v1))]))]) 0 rfl rfl rfl rfl rfl (Nat.le_of_ble_eq_true rfl) rfl rfl dX2_addMinutes_49 ?_
        exact g_vret (pc := 52) C hf E rfl (fun _ => 0) [0] (by decide) rfl rfl (Nat.le_refl _) (Nat.le_refl _) dX2_addMinutes_52
  have H18 : ∀ (cp_withoutCard : Int) (cp_withMoreCards : Int) (cp_withoutTrip : Int), fX2_addMinutes_18 v1 v2 v3 cp_withoutCard cp_withMoreCards cp_withoutTrip = some Ro → Zd D Γ 0 0 [((aCp 0), .inr (2, [.ref (aCp 1), .int (zI cp_tripAt), .int (zI cp_next), .int (zI cp_withoutCard), .int (zI cp_withMoreCards), .int (zI cp_withoutTrip)]))] 18 [(0, .ref (aCp 0)), (1, .int (zI v1)), (2, .int (zI v2)), (3, .int (zI v3))] [] := by
    intro cp_withoutCard cp_withMoreCards cp_withoutTrip hf
    unfold fX2_addMinutes_18 at hf
    refine g_iload_n (pc := 18) C 2 dX2_addMinutes_18 rfl rfl ?_
    refine g_iconst (pc := 19) C dX2_addMinutes_19 ?_
    refine g_icmp_ltr (pc := 20) C (tgt := 33) dX2_addMinutes_20 (by decide) (by decide) hf (fun hf => ?_) (fun hf => ?_)
    · exact H33 _ _ _ hf
    · refine g_aload_n (pc := 23) C 0 dX2_addMinutes_23 rfl rfl ?_
      refine g_dup (pc := 24) C dX2_addMinutes_24 rfl ?_
      refine g_get (pc := 25) C zf_X2_27 0 rfl rfl dX2_addMinutes_25 ?_
      refine g_iload_n (pc := 28) C 1 dX2_addMinutes_28 rfl rfl ?_
      refine g_iadd (pc := 29) C dX2_addMinutes_29 ?_
      refine g_put (pc := 30) C zf_X2_27 tyX2 tyX2_ok nmX2 (v := .int (zI (cp_withMoreCards + v1))) (ws' := [((aCp 0), .inr (2, [.ref (aCp 1), .int (zI cp_tripAt), .int (zI cp_next), .int (zI cp_withoutCard), .int (zI (cp_withMoreCards + v1)), .int (zI cp_withoutTrip)]))]) 0 rfl rfl rfl rfl rfl (Nat.le_of_ble_eq_true rfl) rfl rfl dX2_addMinutes_30 ?_
      exact H33 _ _ _ hf
  unfold fX2_addMinutes at hf
  refine g_iload_n (pc := 0) C 3 dX2_addMinutes_0 rfl rfl ?_
  refine g_if_eq (pc := 1) C (tgt := 18) dX2_addMinutes_1 (by decide) hf (fun hf => ?_) (fun hf => ?_)
  · exact H18 _ _ _ hf
  · refine g_iload_n (pc := 4) C 2 dX2_addMinutes_4 rfl rfl ?_
    refine g_if_ne (pc := 5) C (tgt := 18) dX2_addMinutes_5 (by decide) hf (fun hf => ?_) (fun hf => ?_)
    · exact H18 _ _ _ hf
    · refine g_aload_n (pc := 8) C 0 dX2_addMinutes_8 rfl rfl ?_
      refine g_dup (pc := 9) C dX2_addMinutes_9 rfl ?_
      refine g_get (pc := 10) C zf_X2_24 0 rfl rfl dX2_addMinutes_10 ?_
      refine g_iload_n (pc := 13) C 1 dX2_addMinutes_13 rfl rfl ?_
      refine g_iadd (pc := 14) C dX2_addMinutes_14 ?_
      refine g_put (pc := 15) C zf_X2_24 tyX2 tyX2_ok nmX2 (v := .int (zI (cp_withoutCard + v1))) (ws' := [((aCp 0), .inr (2, [.ref (aCp 1), .int (zI cp_tripAt), .int (zI cp_next), .int (zI (cp_withoutCard + v1)), .int (zI cp_withMoreCards), .int (zI cp_withoutTrip)]))]) 0 rfl rfl rfl rfl rfl (Nat.le_of_ble_eq_true rfl) rfl rfl dX2_addMinutes_15 ?_
      exact H18 _ _ _ hf
def oX2_isDriven (ca : Nat → ClassId) (aCd : Nat → Nat) (aCp : Nat → Nat) (cd_kind : Nat → Int) (cd_vehicle : Nat → Int) (cd_begin : Nat → Int) (cd_acts : Int) (cp_tripAt : Int) (cp_withoutCard : Int) (cp_withMoreCards : Int) (cp_withoutTrip : Int) (Ro : Int × (Nat → Int) × Int) : (Nat → Nat) → va_W := fun _ => [((aCd 0), .inr (1, [.ref (aCd 1), .ref (aCd 2), .ref (aCd 3), .int (zI cd_acts)])), ((aCd 1), .inl (ca 0, 60, .inl (zA cd_kind))), ((aCd 2), .inl (ca 0, 60, .inl (zA cd_vehicle))), ((aCd 3), .inl (ca 0, 61, .inl (zA cd_begin))), ((aCp 0), .inr (2, [.ref (aCp 1), .int (zI cp_tripAt), .int (zI (Ro.2.2)), .int (zI cp_withoutCard), .int (zI cp_withMoreCards), .int (zI cp_withoutTrip)])), ((aCp 1), .inl (ca 0, 4, .inl (zA (Ro.2.1))))]
def oiX2_isDriven (Ro : Int × (Nat → Int) × Int) : Option Value := (some (.int (zI Ro.1)))
set_option maxRecDepth 100000 in
theorem kX2_isDriven (l : Launch) (D : va_G) (ca : Nat → ClassId) (aCd : Nat → Nat) (aCp : Nat → Nat) (cd_kind : Nat → Int) (cd_vehicle : Nat → Int) (cd_begin : Nat → Int) (cd_acts : Int) (cp_actAt : Nat → Int) (cp_tripAt : Int) (cp_next : Int) (cp_withoutCard : Int) (cp_withMoreCards : Int) (cp_withoutTrip : Int) (v2 : Int) (v3 : Int) (v4 : Int) (Ro : Int × (Nat → Int) × Int)
    (hf : fX2_isDriven v2 v3 v4 cd_kind cd_vehicle cd_begin cd_acts cp_actAt cp_next = some Ro) : Zc l D ca yX2_isDriven cX2_isDriven 6 (some .boolean) { frames := 1, cells := 0, slots := 0, locals := 22 } [.ref (aCp 0), .ref (aCd 0), .int (zI v2), .int (zI v3), .int (zI v4)] [((aCd 0), .inr (1, [.ref (aCd 1), .ref (aCd 2), .ref (aCd 3), .int (zI cd_acts)])), ((aCd 1), .inl (ca 0, 60, .inl (zA cd_kind))), ((aCd 2), .inl (ca 0, 60, .inl (zA cd_vehicle))), ((aCd 3), .inl (ca 0, 61, .inl (zA cd_begin))), ((aCp 0), .inr (2, [.ref (aCp 1), .int (zI cp_tripAt), .int (zI cp_next), .int (zI cp_withoutCard), .int (zI cp_withMoreCards), .int (zI cp_withoutTrip)])), ((aCp 1), .inl (ca 0, 4, .inl (zA cp_actAt)))] (oiX2_isDriven Ro) (oX2_isDriven ca aCd aCp cd_kind cd_vehicle cd_begin cd_acts cp_tripAt cp_withoutCard cp_withMoreCards cp_withoutTrip Ro) := by
  refine ctr_of (lv := [(0, .ref (aCp 0)), (1, .ref (aCd 0)), (2, .int (zI v2)), (3, .int (zI v3)), (4, .int (zI v4))]) (by decide +kernel) (Nat.le_of_ble_eq_true rfl) rfl (fun Γ hl0 C E hnm => ?_)
  have H40 : ∀ (cp_actAt : Nat → Int) (cp_next : Int), fX2_isDriven_40 v2 v4 cd_kind cd_vehicle cd_begin cd_acts cp_actAt cp_next = some Ro → Zd D Γ 0 0 [((aCd 0), .inr (1, [.ref (aCd 1), .ref (aCd 2), .ref (aCd 3), .int (zI cd_acts)])), ((aCd 1), .inl (ca 0, 60, .inl (zA cd_kind))), ((aCd 2), .inl (ca 0, 60, .inl (zA cd_vehicle))), ((aCd 3), .inl (ca 0, 61, .inl (zA cd_begin))), ((aCp 0), .inr (2, [.ref (aCp 1), .int (zI cp_tripAt), .int (zI cp_next), .int (zI cp_withoutCard), .int (zI cp_withMoreCards), .int (zI cp_withoutTrip)])), ((aCp 1), .inl (ca 0, 4, .inl (zA cp_actAt)))] 40 [(0, .ref (aCp 0)), (1, .ref (aCd 0)), (2, .int (zI v2)), (4, .int (zI v4))] [] := by
    intro cp_actAt cp_next hf
    unfold fX2_isDriven_40 at hf
    refine g_aload_n (pc := 40) C 0 dX2_isDriven_40 rfl rfl ?_
    refine g_get (pc := 41) C zf_X2_11 4 rfl rfl dX2_isDriven_41 ?_
    refine g_iload_n (pc := 44) C 2 dX2_isDriven_44 rfl rfl ?_
    refine g_iald (pc := 45) C (N := 4) 5 rfl rfl (Nat.le_of_ble_eq_true rfl) dX2_isDriven_45 hf (fun hf => ?_)
    refine g_istore (pc := 46) C (lv' := [(5, .int (zI (cp_actAt v2.toNat))), (0, .ref (aCp 0)), (1, .ref (aCd 0)), (2, .int (zI v2)), (4, .int (zI v4))]) dX2_isDriven_46 (Nat.le_of_ble_eq_true rfl) rfl ?_
    refine g_iload (pc := 48) C 0 dX2_isDriven_48 rfl ?_
    refine g_aload_n (pc := 50) C 2 dX2_isDriven_50 rfl rfl ?_
    refine g_get (pc := 51) C zf_X2_48 0 rfl rfl dX2_isDriven_51 ?_
    refine g_icmp_lt (pc := 54) C (tgt := 59) dX2_isDriven_54 (by decide) hf (fun hf => ?_) (fun hf => ?_)
    · refine g_aload_n (pc := 59) C 1 dX2_isDriven_59 rfl rfl ?_
      refine g_aload_n (pc := 60) C 1 dX2_isDriven_60 rfl rfl ?_
      refine g_get (pc := 61) C zf_X2_21 4 rfl rfl dX2_isDriven_61 ?_
      refine g_aload_n (pc := 64) C 2 dX2_isDriven_64 rfl rfl ?_
      refine g_get (pc := 65) C zf_X2_53 0 rfl rfl dX2_isDriven_65 ?_
      refine g_iload (pc := 68) C 0 dX2_isDriven_68 rfl ?_
      refine g_iconst (pc := 70) C dX2_isDriven_70 ?_
      refine g_iadd (pc := 71) C dX2_isDriven_71 ?_
      refine g_iald (pc := 72) C (N := 61) 3 rfl rfl (Nat.le_of_ble_eq_true rfl) dX2_isDriven_72 hf (fun hf => ?_)
      refine g_mmin (pc := 73) C wml_RX2_56 (Nat.le_of_ble_eq_true rfl) (Nat.le_of_ble_eq_true rfl) (Nat.zero_le _) (Nat.zero_le _) dX2_isDriven_73 hf (fun hf => ?_)
      refine g_put (pc := 76) C zf_X2_21 tyX2 tyX2_ok nmX2 (v := .int (zI (min cp_next (cd_begin ((cp_actAt v2.toNat) + 1).toNat)))) (ws' := [((aCd 0), .inr (1, [.ref (aCd 1), .ref (aCd 2), .ref (aCd 3), .int (zI cd_acts)])), ((aCd 1), .inl (ca 0, 60, .inl (zA cd_kind))), ((aCd 2), .inl (ca 0, 60, .inl (zA cd_vehicle))), ((aCd 3), .inl (ca 0, 61, .inl (zA cd_begin))), ((aCp 0), .inr (2, [.ref (aCp 1), .int (zI cp_tripAt), .int (zI (min cp_next (cd_begin ((cp_actAt v2.toNat) + 1).toNat))), .int (zI cp_withoutCard), .int (zI cp_withMoreCards), .int (zI cp_withoutTrip)])), ((aCp 1), .inl (ca 0, 4, .inl (zA cp_actAt)))]) 4 rfl rfl rfl rfl rfl (Nat.le_of_ble_eq_true rfl) rfl rfl dX2_isDriven_76 ?_
      refine g_aload_n (pc := 79) C 2 dX2_isDriven_79 rfl rfl ?_
      refine g_iload (pc := 80) C 0 dX2_isDriven_80 rfl ?_
      refine g_iload (pc := 82) C 4 dX2_isDriven_82 rfl ?_
      obtain ⟨r_84, hc_84, hf⟩ := Option.bind_eq_some_iff.mp hf
      refine g_callV (pc := 84) C hl0 (wr := [((aCd 3), .inl (ca 0, 61, .inl (zA cd_begin))), ((aCp 0), .inr (2, [.ref (aCp 1), .int (zI cp_tripAt), .int (zI (min cp_next (cd_begin ((cp_actAt v2.toNat) + 1).toNat))), .int (zI cp_withoutCard), .int (zI cp_withMoreCards), .int (zI cp_withoutTrip)])), ((aCp 1), .inl (ca 0, 4, .inl (zA cp_actAt)))]) (k' := 0) (n' := 0) (ws' := fun _ => [((aCd 3), .inl (ca 0, 61, .inl (zA cd_begin))), ((aCp 0), .inr (2, [.ref (aCp 1), .int (zI cp_tripAt), .int (zI (min cp_next (cd_begin ((cp_actAt v2.toNat) + 1).toNat))), .int (zI cp_withoutCard), .int (zI cp_withMoreCards), .int (zI cp_withoutTrip)])), ((aCp 1), .inl (ca 0, 4, .inl (zA cp_actAt))), ((aCd 0), .inr (1, [.ref (aCd 1), .ref (aCd 2), .ref (aCd 3), .int (zI cd_acts)])), ((aCd 1), .inl (ca 0, 60, .inl (zA cd_kind))), ((aCd 2), .inl (ca 0, 60, .inl (zA cd_vehicle)))]) (st' := [.int (zI r_84)]) (kX1_drives l D ca aCd cd_kind cd_vehicle cd_acts (cp_actAt v2.toNat) v4 r_84 hc_84) wml_RX2_62 wim_X1_drives wse_X1_drives win_RX1 wco_X1_drives (nA := 2) rfl (by decide +kernel)  ⟨(Nat.le_of_ble_eq_true rfl), (Nat.le_of_ble_eq_true rfl)⟩ (Nat.le_refl _) (Nat.le_refl _) rfl (Nat.le_of_ble_eq_true rfl) dX2_isDriven_84 0 1 rfl rfl rfl [0, 1, 2] [3, 4, 5] rfl rfl rfl (by decide) (by decide) (by decide) rfl rfl (fun _ => rfl) rfl (fun _ => ?_)
      obtain ⟨hz_87, hf⟩ := zck hf
      exact g_zret (pc := 87) C hf E (zbool hz_87) rfl (fun _ => 0) [3, 4, 5, 0, 1, 2] (by decide) rfl rfl (Nat.le_refl _) (Nat.le_refl _) dX2_isDriven_87
    · refine g_iconst (pc := 57) C dX2_isDriven_57 ?_
      exact g_zret (pc := 58) C hf E (by decide) rfl (fun _ => 0) [0, 1, 2, 3, 4, 5] (by decide) rfl rfl (Nat.le_refl _) (Nat.le_refl _) dX2_isDriven_58
  unfold fX2_isDriven at hf
  refine g_aload_n (pc := 0) C 0 dX2_isDriven_0 rfl rfl ?_
  refine g_get (pc := 1) C zf_X2_11 4 rfl rfl dX2_isDriven_1 ?_
  refine g_iload_n (pc := 4) C 2 dX2_isDriven_4 rfl rfl ?_
  refine g_iald (pc := 5) C (N := 4) 5 rfl rfl (Nat.le_of_ble_eq_true rfl) dX2_isDriven_5 hf (fun hf => ?_)
  refine g_aload_n (pc := 6) C 1 dX2_isDriven_6 rfl rfl ?_
  refine g_get (pc := 7) C zf_X2_48 0 rfl rfl dX2_isDriven_7 ?_
  refine g_icmp_ge (pc := 10) C (tgt := 40) dX2_isDriven_10 (by decide) hf (fun hf => ?_) (fun hf => ?_)
  · refine g_sub [0, 1, 2, 3, 4, 5] [0, 1, 2, 4] (by decide) rfl rfl rfl ?_
    exact H40 _ _ hf
  · refine g_aload_n (pc := 13) C 1 dX2_isDriven_13 rfl rfl ?_
    refine g_get (pc := 14) C zf_X2_53 0 rfl rfl dX2_isDriven_14 ?_
    refine g_aload_n (pc := 17) C 0 dX2_isDriven_17 rfl rfl ?_
    refine g_get (pc := 18) C zf_X2_11 4 rfl rfl dX2_isDriven_18 ?_
    refine g_iload_n (pc := 21) C 2 dX2_isDriven_21 rfl rfl ?_
    refine g_iald (pc := 22) C (N := 4) 5 rfl rfl (Nat.le_of_ble_eq_true rfl) dX2_isDriven_22 hf (fun hf => ?_)
    refine g_iconst (pc := 23) C dX2_isDriven_23 ?_
    refine g_iadd (pc := 24) C dX2_isDriven_24 ?_
    refine g_iald (pc := 25) C (N := 61) 3 rfl rfl (Nat.le_of_ble_eq_true rfl) dX2_isDriven_25 hf (fun hf => ?_)
    refine g_iload_n (pc := 26) C 3 dX2_isDriven_26 rfl rfl ?_
    refine g_icmp_gt (pc := 27) C (tgt := 40) dX2_isDriven_27 (by decide) hf (fun hf => ?_) (fun hf => ?_)
    · refine g_sub [0, 1, 2, 3, 4, 5] [0, 1, 2, 4] (by decide) rfl rfl rfl ?_
      exact H40 _ _ hf
    · refine g_aload_n (pc := 30) C 0 dX2_isDriven_30 rfl rfl ?_
      refine g_get (pc := 31) C zf_X2_11 4 rfl rfl dX2_isDriven_31 ?_
      refine g_iload_n (pc := 34) C 2 dX2_isDriven_34 rfl rfl ?_
      refine g_dup2 (pc := 35) C dX2_isDriven_35 rfl rfl ?_
      refine g_iald (pc := 36) C (N := 4) 5 rfl rfl (Nat.le_of_ble_eq_true rfl) dX2_isDriven_36 hf (fun hf => ?_)
      refine g_iconst (pc := 37) C dX2_isDriven_37 ?_
      refine g_iadd (pc := 38) C dX2_isDriven_38 ?_
      refine g_iast (pc := 39) C (N := 4) (ws' := [((aCd 0), .inr (1, [.ref (aCd 1), .ref (aCd 2), .ref (aCd 3), .int (zI cd_acts)])), ((aCd 1), .inl (ca 0, 60, .inl (zA cd_kind))), ((aCd 2), .inl (ca 0, 60, .inl (zA cd_vehicle))), ((aCd 3), .inl (ca 0, 61, .inl (zA cd_begin))), ((aCp 0), .inr (2, [.ref (aCp 1), .int (zI cp_tripAt), .int (zI cp_next), .int (zI cp_withoutCard), .int (zI cp_withMoreCards), .int (zI cp_withoutTrip)])), ((aCp 1), .inl (ca 0, 4, .inl (zA (zU cp_actAt v2.toNat ((cp_actAt v2.toNat) + 1)))))]) 5 rfl rfl (Nat.le_of_ble_eq_true rfl) rfl dX2_isDriven_39 hf (fun hf => ?_)
      refine g_sub [0, 1, 2, 3, 4, 5] [0, 1, 2, 4] (by decide) rfl rfl rfl ?_
      exact H40 _ _ hf
def oX2_isOnTrip (ca : Nat → ClassId) (aCp : Nat → Nat) (aTr : Nat → Nat) (cp_withoutCard : Int) (cp_withMoreCards : Int) (cp_withoutTrip : Int) (tr_from : Nat → Int) (tr_to : Nat → Int) (tr_size : Int) (Ro : Int × Int × Int) : (Nat → Nat) → va_W := fun _ => [((aCp 0), .inr (2, [.ref (aCp 1), .int (zI (Ro.2.1)), .int (zI (Ro.2.2)), .int (zI cp_withoutCard), .int (zI cp_withMoreCards), .int (zI cp_withoutTrip)])), ((aTr 0), .inr (8, [.ref (aTr 1), .ref (aTr 2), .int (zI tr_size)])), ((aTr 1), .inl (ca 0, 20, .inl (zA tr_from))), ((aTr 2), .inl (ca 0, 20, .inl (zA tr_to)))]
def oiX2_isOnTrip (Ro : Int × Int × Int) : Option Value := (some (.int (zI Ro.1)))
set_option maxRecDepth 100000 in
theorem kX2_isOnTrip (l : Launch) (D : va_G) (ca : Nat → ClassId) (aCp : Nat → Nat) (aTr : Nat → Nat) (cp_tripAt : Int) (cp_next : Int) (cp_withoutCard : Int) (cp_withMoreCards : Int) (cp_withoutTrip : Int) (tr_from : Nat → Int) (tr_to : Nat → Int) (tr_size : Int) (v2 : Int) (Ro : Int × Int × Int)
    (hf : fX2_isOnTrip v2 cp_tripAt cp_next tr_from tr_to tr_size = some Ro) : Zc l D ca yX2_isOnTrip cX2_isOnTrip 4 (some .boolean) { frames := 1, cells := 0, slots := 0, locals := 14 } [.ref (aCp 0), .ref (aTr 0), .int (zI v2)] [((aCp 0), .inr (2, [.ref (aCp 1), .int (zI cp_tripAt), .int (zI cp_next), .int (zI cp_withoutCard), .int (zI cp_withMoreCards), .int (zI cp_withoutTrip)])), ((aTr 0), .inr (8, [.ref (aTr 1), .ref (aTr 2), .int (zI tr_size)])), ((aTr 1), .inl (ca 0, 20, .inl (zA tr_from))), ((aTr 2), .inl (ca 0, 20, .inl (zA tr_to)))] (oiX2_isOnTrip Ro) (oX2_isOnTrip ca aCp aTr cp_withoutCard cp_withMoreCards cp_withoutTrip tr_from tr_to tr_size Ro) := by
  refine ctr_of (lv := [(0, .ref (aCp 0)), (1, .ref (aTr 0)), (2, .int (zI v2))]) (by decide +kernel) (Nat.le_of_ble_eq_true rfl) rfl (fun Γ hl0 C E hnm => ?_)
  have H96 : ∀ (v3 : Int) (s1 : Int) (s2 : Int) (cp_tripAt : Int) (cp_next : Int), fX2_isOnTrip_96 v3 s1 s2 cp_tripAt = some Ro → Zd D Γ 0 0 [((aCp 0), .inr (2, [.ref (aCp 1), .int (zI cp_tripAt), .int (zI cp_next), .int (zI cp_withoutCard), .int (zI cp_withMoreCards), .int (zI cp_withoutTrip)])), ((aTr 0), .inr (8, [.ref (aTr 1), .ref (aTr 2), .int (zI tr_size)])), ((aTr 1), .inl (ca 0, 20, .inl (zA tr_from))), ((aTr 2), .inl (ca 0, 20, .inl (zA tr_to)))] 96 [(3, .int (zI v3))] [.int (zI s2), .int (zI s1), .ref (aCp 0)] := by
    intro v3 s1 s2 cp_tripAt cp_next hf
    unfold fX2_isOnTrip_96 at hf
    refine g_mmin (pc := 96) C wml_RX2_56 (Nat.le_of_ble_eq_true rfl) (Nat.le_of_ble_eq_true rfl) (Nat.zero_le _) (Nat.zero_le _) dX2_isOnTrip_96 hf (fun hf => ?_)
    refine g_put (pc := 99) C zf_X2_21 tyX2 tyX2_ok nmX2 (v := .int (zI (min s1 s2))) (ws' := [((aCp 0), .inr (2, [.ref (aCp 1), .int (zI cp_tripAt), .int (zI (min s1 s2)), .int (zI cp_withoutCard), .int (zI cp_withMoreCards), .int (zI cp_withoutTrip)])), ((aTr 0), .inr (8, [.ref (aTr 1), .ref (aTr 2), .int (zI tr_size)])), ((aTr 1), .inl (ca 0, 20, .inl (zA tr_from))), ((aTr 2), .inl (ca 0, 20, .inl (zA tr_to)))]) 0 rfl rfl rfl rfl rfl (Nat.le_of_ble_eq_true rfl) rfl rfl dX2_isOnTrip_99 ?_
    refine g_iload_n (pc := 102) C 0 dX2_isOnTrip_102 rfl rfl ?_
    obtain ⟨hz_103, hf⟩ := zck hf
    exact g_zret (pc := 103) C hf E (zbool hz_103) rfl (fun _ => 0) [0, 1, 2, 3] (by decide) rfl rfl (Nat.le_refl _) (Nat.le_refl _) dX2_isOnTrip_103
  have H65 : ∀ (s0 : Int) (cp_tripAt : Int) (cp_next : Int), fX2_isOnTrip_65 s0 cp_tripAt cp_next tr_from tr_to = some Ro → Zd D Γ 0 0 [((aCp 0), .inr (2, [.ref (aCp 1), .int (zI cp_tripAt), .int (zI cp_next), .int (zI cp_withoutCard), .int (zI cp_withMoreCards), .int (zI cp_withoutTrip)])), ((aTr 0), .inr (8, [.ref (aTr 1), .ref (aTr 2), .int (zI tr_size)])), ((aTr 1), .inl (ca 0, 20, .inl (zA tr_from))), ((aTr 2), .inl (ca 0, 20, .inl (zA tr_to)))] 65 [(0, .ref (aCp 0)), (1, .ref (aTr 0))] [.int (zI s0)] := by
    intro s0 cp_tripAt cp_next hf
    unfold fX2_isOnTrip_65 at hf
    refine g_istore_n (pc := 65) C (lv' := [(3, .int (zI s0)), (0, .ref (aCp 0)), (1, .ref (aTr 0))]) dX2_isOnTrip_65 rfl (Nat.le_of_ble_eq_true rfl) rfl ?_
    refine g_aload_n (pc := 66) C 1 dX2_isOnTrip_66 rfl rfl ?_
    refine g_aload_n (pc := 67) C 1 dX2_isOnTrip_67 rfl rfl ?_
    refine g_get (pc := 68) C zf_X2_21 0 rfl rfl dX2_isOnTrip_68 ?_
    refine g_iload_n (pc := 71) C 0 dX2_isOnTrip_71 rfl rfl ?_
    refine g_if_eq (pc := 72) C (tgt := 87) dX2_isOnTrip_72 (by decide) hf (fun hf => ?_) (fun hf => ?_)
    · refine g_aload_n (pc := 87) C 2 dX2_isOnTrip_87 rfl rfl ?_
      refine g_get (pc := 88) C zf_X2_72 1 rfl rfl dX2_isOnTrip_88 ?_
      refine g_aload_n (pc := 91) C 1 dX2_isOnTrip_91 rfl rfl ?_
      refine g_get (pc := 92) C zf_X2_17 0 rfl rfl dX2_isOnTrip_92 ?_
      refine g_iald (pc := 95) C (N := 20) 2 rfl rfl (Nat.le_of_ble_eq_true rfl) dX2_isOnTrip_95 hf (fun hf => ?_)
      refine g_sub [0, 1, 2, 3] [0] (by decide) rfl rfl rfl ?_
      exact H96 _ _ _ _ _ hf
    · refine g_aload_n (pc := 75) C 2 dX2_isOnTrip_75 rfl rfl ?_
      refine g_get (pc := 76) C zf_X2_69 1 rfl rfl dX2_isOnTrip_76 ?_
      refine g_aload_n (pc := 79) C 1 dX2_isOnTrip_79 rfl rfl ?_
      refine g_get (pc := 80) C zf_X2_17 0 rfl rfl dX2_isOnTrip_80 ?_
      refine g_iald (pc := 83) C (N := 20) 3 rfl rfl (Nat.le_of_ble_eq_true rfl) dX2_isOnTrip_83 hf (fun hf => ?_)
      refine g_goto (pc := 84) C (tgt := 96) dX2_isOnTrip_84 (by decide) ?_
      refine g_sub [0, 1, 2, 3] [0] (by decide) rfl rfl rfl ?_
      exact H96 _ _ _ _ _ hf
  have H34 : ∀ (cp_tripAt : Int) (cp_next : Int), fX2_isOnTrip_34 v2 cp_tripAt cp_next tr_from tr_to tr_size = some Ro → Zd D Γ 0 0 [((aCp 0), .inr (2, [.ref (aCp 1), .int (zI cp_tripAt), .int (zI cp_next), .int (zI cp_withoutCard), .int (zI cp_withMoreCards), .int (zI cp_withoutTrip)])), ((aTr 0), .inr (8, [.ref (aTr 1), .ref (aTr 2), .int (zI tr_size)])), ((aTr 1), .inl (ca 0, 20, .inl (zA tr_from))), ((aTr 2), .inl (ca 0, 20, .inl (zA tr_to)))] 34 [(0, .ref (aCp 0)), (1, .ref (aTr 0)), (2, .int (zI v2))] [] := by
    intro cp_tripAt cp_next hf
    unfold fX2_isOnTrip_34 at hf
    refine g_aload_n (pc := 34) C 0 dX2_isOnTrip_34 rfl rfl ?_
    refine g_get (pc := 35) C zf_X2_17 0 rfl rfl dX2_isOnTrip_35 ?_
    refine g_aload_n (pc := 38) C 1 dX2_isOnTrip_38 rfl rfl ?_
    refine g_get (pc := 39) C zf_X2_66 1 rfl rfl dX2_isOnTrip_39 ?_
    refine g_icmp_lt (pc := 42) C (tgt := 47) dX2_isOnTrip_42 (by decide) hf (fun hf => ?_) (fun hf => ?_)
    · refine g_aload_n (pc := 47) C 1 dX2_isOnTrip_47 rfl rfl ?_
      refine g_get (pc := 48) C zf_X2_72 1 rfl rfl dX2_isOnTrip_48 ?_
      refine g_aload_n (pc := 51) C 0 dX2_isOnTrip_51 rfl rfl ?_
      refine g_get (pc := 52) C zf_X2_17 0 rfl rfl dX2_isOnTrip_52 ?_
      refine g_iald (pc := 55) C (N := 20) 2 rfl rfl (Nat.le_of_ble_eq_true rfl) dX2_isOnTrip_55 hf (fun hf => ?_)
      refine g_iload_n (pc := 56) C 2 dX2_isOnTrip_56 rfl rfl ?_
      refine g_icmp_gt (pc := 57) C (tgt := 64) dX2_isOnTrip_57 (by decide) hf (fun hf => ?_) (fun hf => ?_)
      · refine g_iconst (pc := 64) C dX2_isOnTrip_64 ?_
        refine g_sub [0, 1, 2, 3] [0, 1] (by decide) rfl rfl rfl ?_
        exact H65 _ _ _ hf
      · refine g_iconst (pc := 60) C dX2_isOnTrip_60 ?_
        refine g_goto (pc := 61) C (tgt := 65) dX2_isOnTrip_61 (by decide) ?_
        refine g_sub [0, 1, 2, 3] [0, 1] (by decide) rfl rfl rfl ?_
        exact H65 _ _ _ hf
    · refine g_iconst (pc := 45) C dX2_isOnTrip_45 ?_
      exact g_zret (pc := 46) C hf E (by decide) rfl (fun _ => 0) [0, 1, 2, 3] (by decide) rfl rfl (Nat.le_refl _) (Nat.le_refl _) dX2_isOnTrip_46
  unfold fX2_isOnTrip at hf
  refine g_aload_n (pc := 0) C 0 dX2_isOnTrip_0 rfl rfl ?_
  refine g_get (pc := 1) C zf_X2_17 0 rfl rfl dX2_isOnTrip_1 ?_
  refine g_aload_n (pc := 4) C 1 dX2_isOnTrip_4 rfl rfl ?_
  refine g_get (pc := 5) C zf_X2_66 1 rfl rfl dX2_isOnTrip_5 ?_
  refine g_icmp_ge (pc := 8) C (tgt := 34) dX2_isOnTrip_8 (by decide) hf (fun hf => ?_) (fun hf => ?_)
  · exact H34 _ _ hf
  · refine g_aload_n (pc := 11) C 1 dX2_isOnTrip_11 rfl rfl ?_
    refine g_get (pc := 12) C zf_X2_69 1 rfl rfl dX2_isOnTrip_12 ?_
    refine g_aload_n (pc := 15) C 0 dX2_isOnTrip_15 rfl rfl ?_
    refine g_get (pc := 16) C zf_X2_17 0 rfl rfl dX2_isOnTrip_16 ?_
    refine g_iald (pc := 19) C (N := 20) 3 rfl rfl (Nat.le_of_ble_eq_true rfl) dX2_isOnTrip_19 hf (fun hf => ?_)
    refine g_iload_n (pc := 20) C 2 dX2_isOnTrip_20 rfl rfl ?_
    refine g_icmp_gt (pc := 21) C (tgt := 34) dX2_isOnTrip_21 (by decide) hf (fun hf => ?_) (fun hf => ?_)
    · exact H34 _ _ hf
    · refine g_aload_n (pc := 24) C 0 dX2_isOnTrip_24 rfl rfl ?_
      refine g_dup (pc := 25) C dX2_isOnTrip_25 rfl ?_
      refine g_get (pc := 26) C zf_X2_17 0 rfl rfl dX2_isOnTrip_26 ?_
      refine g_iconst (pc := 29) C dX2_isOnTrip_29 ?_
      refine g_iadd (pc := 30) C dX2_isOnTrip_30 ?_
      refine g_put (pc := 31) C zf_X2_17 tyX2 tyX2_ok nmX2 (v := .int (zI (cp_tripAt + 1))) (ws' := [((aCp 0), .inr (2, [.ref (aCp 1), .int (zI (cp_tripAt + 1)), .int (zI cp_next), .int (zI cp_withoutCard), .int (zI cp_withMoreCards), .int (zI cp_withoutTrip)])), ((aTr 0), .inr (8, [.ref (aTr 1), .ref (aTr 2), .int (zI tr_size)])), ((aTr 1), .inl (ca 0, 20, .inl (zA tr_from))), ((aTr 2), .inl (ca 0, 20, .inl (zA tr_to)))]) 0 rfl rfl rfl rfl rfl (Nat.le_of_ble_eq_true rfl) rfl rfl dX2_isOnTrip_31 ?_
      exact H34 _ _ hf
def oX2_startAgain (ca : Nat → ClassId) (aCp : Nat → Nat) (cp_next : Int) (Ro : (Nat → Int) × Int × Int × Int × Int) : (Nat → Nat) → va_W := fun _ => [((aCp 0), .inr (2, [.ref (aCp 1), .int (zI (Ro.2.1)), .int (zI cp_next), .int (zI (Ro.2.2.1)), .int (zI (Ro.2.2.2.1)), .int (zI (Ro.2.2.2.2))])), ((aCp 1), .inl (ca 0, 4, .inl (zA (Ro.1))))]
def oiX2_startAgain (Ro : (Nat → Int) × Int × Int × Int × Int) : Option Value := none
set_option maxRecDepth 100000 in
theorem kX2_startAgain (l : Launch) (D : va_G) (ca : Nat → ClassId) (aCp : Nat → Nat) (cp_actAt : Nat → Int) (cp_tripAt : Int) (cp_next : Int) (cp_withoutCard : Int) (cp_withMoreCards : Int) (cp_withoutTrip : Int)  (Ro : (Nat → Int) × Int × Int × Int × Int)
    (hf : fX2_startAgain cp_actAt cp_tripAt cp_withoutCard cp_withMoreCards cp_withoutTrip = some Ro) : Zc l D ca yX2_startAgain cX2_startAgain 2 none { frames := 0, cells := 0, slots := 0, locals := 0 } [.ref (aCp 0)] [((aCp 0), .inr (2, [.ref (aCp 1), .int (zI cp_tripAt), .int (zI cp_next), .int (zI cp_withoutCard), .int (zI cp_withMoreCards), .int (zI cp_withoutTrip)])), ((aCp 1), .inl (ca 0, 4, .inl (zA cp_actAt)))] (oiX2_startAgain Ro) (oX2_startAgain ca aCp cp_next Ro) := by
  refine ctr_of (lv := [(0, .ref (aCp 0))]) (by decide +kernel) (Nat.le_of_ble_eq_true rfl) rfl (fun Γ hl0 C E hnm => ?_)
  have H2 : ∀ (cp_tripAt : Int) (cp_withoutCard : Int) (cp_withMoreCards : Int) (cp_withoutTrip : Int) (n2 : Nat) (v1 : Int) (cp_actAt : Nat → Int), zlp (fX2_startAgain_2) n2 (v1, cp_actAt) = some Ro → Zd D Γ 0 0 [((aCp 0), .inr (2, [.ref (aCp 1), .int (zI cp_tripAt), .int (zI cp_next), .int (zI cp_withoutCard), .int (zI cp_withMoreCards), .int (zI cp_withoutTrip)])), ((aCp 1), .inl (ca 0, 4, .inl (zA cp_actAt)))] 2 [(0, .ref (aCp 0)), (1, .int (zI v1))] [] := by
    intro cp_tripAt cp_withoutCard cp_withMoreCards cp_withoutTrip
    intro n2
    induction n2 with
    | zero =>
      intro v1 cp_actAt hf
      exact zno hf
    | succ n2 ih2 =>
      intro v1 cp_actAt hf
      rw [zlp_s] at hf
      unfold fX2_startAgain_2 at hf
      dsimp only at hf
      refine g_iload_n (pc := 2) C 1 dX2_startAgain_2 rfl rfl ?_
      refine g_iconst (pc := 3) C dX2_startAgain_3 ?_
      refine g_icmp_ger (pc := 4) C (tgt := 20) dX2_startAgain_4 (by decide) (by decide) hf (fun hf => ?_) (fun hf => ?_)
      · refine g_aload_n (pc := 20) C 0 dX2_startAgain_20 rfl rfl ?_
        refine g_iconst (pc := 21) C dX2_startAgain_21 ?_
        refine g_put (pc := 22) C zf_X2_17 tyX2 tyX2_ok nmX2 (v := .int (zI 0)) (ws' := [((aCp 0), .inr (2, [.ref (aCp 1), .int (zI 0), .int (zI cp_next), .int (zI cp_withoutCard), .int (zI cp_withMoreCards), .int (zI cp_withoutTrip)])), ((aCp 1), .inl (ca 0, 4, .inl (zA cp_actAt)))]) 0 rfl rfl rfl rfl rfl (Nat.le_of_ble_eq_true rfl) rfl rfl dX2_startAgain_22 ?_
        refine g_aload_n (pc := 25) C 0 dX2_startAgain_25 rfl rfl ?_
        refine g_iconst (pc := 26) C dX2_startAgain_26 ?_
        refine g_put (pc := 27) C zf_X2_24 tyX2 tyX2_ok nmX2 (v := .int (zI 0)) (ws' := [((aCp 0), .inr (2, [.ref (aCp 1), .int (zI 0), .int (zI cp_next), .int (zI 0), .int (zI cp_withMoreCards), .int (zI cp_withoutTrip)])), ((aCp 1), .inl (ca 0, 4, .inl (zA cp_actAt)))]) 0 rfl rfl rfl rfl rfl (Nat.le_of_ble_eq_true rfl) rfl rfl dX2_startAgain_27 ?_
        refine g_aload_n (pc := 30) C 0 dX2_startAgain_30 rfl rfl ?_
        refine g_iconst (pc := 31) C dX2_startAgain_31 ?_
        refine g_put (pc := 32) C zf_X2_27 tyX2 tyX2_ok nmX2 (v := .int (zI 0)) (ws' := [((aCp 0), .inr (2, [.ref (aCp 1), .int (zI 0), .int (zI cp_next), .int (zI 0), .int (zI 0), .int (zI cp_withoutTrip)])), ((aCp 1), .inl (ca 0, 4, .inl (zA cp_actAt)))]) 0 rfl rfl rfl rfl rfl (Nat.le_of_ble_eq_true rfl) rfl rfl dX2_startAgain_32 ?_
        refine g_aload_n (pc := 35) C 0 dX2_startAgain_35 rfl rfl ?_
        refine g_iconst (pc := 36) C dX2_startAgain_36 ?_
        refine g_put (pc := 37) C zf_X2_30 tyX2 tyX2_ok nmX2 (v := .int (zI 0)) (ws' := [((aCp 0), .inr (2, [.ref (aCp 1), .int (zI 0), .int (zI cp_next), .int (zI 0), .int (zI 0), .int (zI 0)])), ((aCp 1), .inl (ca 0, 4, .inl (zA cp_actAt)))]) 0 rfl rfl rfl rfl rfl (Nat.le_of_ble_eq_true rfl) rfl rfl dX2_startAgain_37 ?_
        exact g_vret (pc := 40) C hf E rfl (fun _ => 0) [0, 1] (by decide) rfl rfl (Nat.le_refl _) (Nat.le_refl _) dX2_startAgain_40
      · refine g_aload_n (pc := 7) C 0 dX2_startAgain_7 rfl rfl ?_
        refine g_get (pc := 8) C zf_X2_11 0 rfl rfl dX2_startAgain_8 ?_
        refine g_iload_n (pc := 11) C 1 dX2_startAgain_11 rfl rfl ?_
        refine g_iconst (pc := 12) C dX2_startAgain_12 ?_
        refine g_iast (pc := 13) C (N := 4) (ws' := [((aCp 0), .inr (2, [.ref (aCp 1), .int (zI cp_tripAt), .int (zI cp_next), .int (zI cp_withoutCard), .int (zI cp_withMoreCards), .int (zI cp_withoutTrip)])), ((aCp 1), .inl (ca 0, 4, .inl (zA (zU cp_actAt v1.toNat 0))))]) 1 rfl rfl (Nat.le_of_ble_eq_true rfl) rfl dX2_startAgain_13 hf (fun hf => ?_)
        refine g_iinc (pc := 14) C 1 (lv' := [(1, .int (zI (v1 + 1))), (0, .ref (aCp 0))]) dX2_startAgain_14 rfl (Nat.le_of_ble_eq_true rfl) rfl ?_
        refine g_goto (pc := 17) C (tgt := 2) dX2_startAgain_17 (by decide) ?_
        refine g_sub [0, 1] [1, 0] (by decide) rfl rfl rfl ?_
        exact ih2 _ _ hf
  unfold fX2_startAgain at hf
  refine g_iconst (pc := 0) C dX2_startAgain_0 ?_
  refine g_istore_n (pc := 1) C (lv' := [(1, .int (zI 0)), (0, .ref (aCp 0))]) dX2_startAgain_1 rfl (Nat.le_of_ble_eq_true rfl) rfl ?_
  refine g_sub [0, 1] [1, 0] (by decide) rfl rfl rfl ?_
  exact H2 _ _ _ _ _ _ _ hf
def oX9_breakFrom (ca : Nat → ClassId) (aLw : Nat → Nat) (aWh : Nat → Nat) (aRd : Nat → Nat) (lw_numbers : Nat → Int) (wh_base : Int) (wh_parted : Int) (Ro : Int) : (Nat → Nat) → va_W := fun _ => [((aLw 0), .inr (4, [.ref (aLw 1), .ref (aLw 2)])), ((aLw 1), .inl (ca 0, 11, .inl (zA lw_numbers))), ((aWh 0), .inr (9, [.ref (aLw 0), .ref (aRd 0), .int (zI wh_base), .int (zI wh_parted)]))]
def oiX9_breakFrom (Ro : Int) : Option Value := (some (.int (zI Ro)))
set_option maxRecDepth 100000 in
theorem kX9_breakFrom (l : Launch) (D : va_G) (ca : Nat → ClassId) (aLw : Nat → Nat) (aWh : Nat → Nat) (aRd : Nat → Nat) (lw_numbers : Nat → Int) (wh_base : Int) (wh_parted : Int) (v1 : Int) (Ro : Int)
    (hf : fX9_breakFrom v1 lw_numbers = some Ro) : Zc l D ca yX9_breakFrom cX9_breakFrom 3 (some .int) { frames := 1, cells := 0, slots := 0, locals := 13 } [.ref (aWh 0), .int (zI v1)] [((aLw 0), .inr (4, [.ref (aLw 1), .ref (aLw 2)])), ((aLw 1), .inl (ca 0, 11, .inl (zA lw_numbers))), ((aWh 0), .inr (9, [.ref (aLw 0), .ref (aRd 0), .int (zI wh_base), .int (zI wh_parted)]))] (oiX9_breakFrom Ro) (oX9_breakFrom ca aLw aWh aRd lw_numbers wh_base wh_parted Ro) := by
  refine ctr_of (lv := [(0, .ref (aWh 0)), (1, .int (zI v1))]) (by decide +kernel) (Nat.le_of_ble_eq_true rfl) rfl (fun Γ hl0 C E hnm => ?_)
  unfold fX9_breakFrom at hf
  refine g_aload_n (pc := 0) C 0 dX9_breakFrom_0 rfl rfl ?_
  refine g_get (pc := 1) C zf_X9_19 2 rfl rfl dX9_breakFrom_1 ?_
  refine g_get (pc := 4) C zf_X9_27 0 rfl rfl dX9_breakFrom_4 ?_
  refine g_iconst (pc := 7) C dX9_breakFrom_7 ?_
  refine g_ialdK (pc := 8) C 1 1 rfl rfl (Nat.le_of_ble_eq_true rfl) (Nat.le_of_ble_eq_true rfl) dX9_breakFrom_8 ?_
  refine g_istore_n (pc := 9) C (lv' := [(2, .int (zI (lw_numbers 1))), (0, .ref (aWh 0)), (1, .int (zI v1))]) dX9_breakFrom_9 rfl (Nat.le_of_ble_eq_true rfl) rfl ?_
  refine g_iload_n (pc := 10) C 2 dX9_breakFrom_10 rfl rfl ?_
  refine g_iconst (pc := 11) C dX9_breakFrom_11 ?_
  refine g_icmp_ger (pc := 12) C (tgt := 19) dX9_breakFrom_12 (by decide) (by decide) hf (fun hf => ?_) (fun hf => ?_)
  · refine g_iload_n (pc := 19) C 0 dX9_breakFrom_19 rfl rfl ?_
    refine g_aload_n (pc := 20) C 1 dX9_breakFrom_20 rfl rfl ?_
    refine g_get (pc := 21) C zf_X9_19 2 rfl rfl dX9_breakFrom_21 ?_
    refine g_get (pc := 24) C zf_X9_27 0 rfl rfl dX9_breakFrom_24 ?_
    refine g_iconst (pc := 27) C dX9_breakFrom_27 ?_
    refine g_ialdK (pc := 28) C 2 1 rfl rfl (Nat.le_of_ble_eq_true rfl) (Nat.le_of_ble_eq_true rfl) dX9_breakFrom_28 ?_
    refine g_aload_n (pc := 29) C 1 dX9_breakFrom_29 rfl rfl ?_
    refine g_get (pc := 30) C zf_X9_19 2 rfl rfl dX9_breakFrom_30 ?_
    refine g_get (pc := 33) C zf_X9_27 0 rfl rfl dX9_breakFrom_33 ?_
    refine g_iconst (pc := 36) C dX9_breakFrom_36 ?_
    refine g_ialdK (pc := 37) C 3 1 rfl rfl (Nat.le_of_ble_eq_true rfl) (Nat.le_of_ble_eq_true rfl) dX9_breakFrom_37 ?_
    refine g_iadd (pc := 38) C dX9_breakFrom_38 ?_
    refine g_mmin (pc := 39) C wml_RX9_95 (Nat.le_of_ble_eq_true rfl) (Nat.le_of_ble_eq_true rfl) (Nat.zero_le _) (Nat.zero_le _) dX9_breakFrom_39 hf (fun hf => ?_)
    exact g_iret (pc := 42) C hf E rfl (fun _ => 0) [0, 1, 2] (by decide) rfl rfl (Nat.le_refl _) (Nat.le_refl _) dX9_breakFrom_42
  · refine g_iload_n (pc := 15) C 0 dX9_breakFrom_15 rfl rfl ?_
    refine g_goto (pc := 16) C (tgt := 42) dX9_breakFrom_16 (by decide) ?_
    exact g_iret (pc := 42) C hf E rfl (fun _ => 0) [0, 1, 2] (by decide) rfl rfl (Nat.le_refl _) (Nat.le_refl _) dX9_breakFrom_42
def oX9_frees (ca : Nat → ClassId) (aLw : Nat → Nat) (aWh : Nat → Nat) (aRd : Nat → Nat) (lw_numbers : Nat → Int) (wh_base : Int) (wh_parted : Int) (Ro : Int) : (Nat → Nat) → va_W := fun _ => [((aLw 0), .inr (4, [.ref (aLw 1), .ref (aLw 2)])), ((aLw 1), .inl (ca 0, 11, .inl (zA lw_numbers))), ((aWh 0), .inr (9, [.ref (aLw 0), .ref (aRd 0), .int (zI wh_base), .int (zI wh_parted)]))]
def oiX9_frees (Ro : Int) : Option Value := (some (.int (zI Ro)))
set_option maxRecDepth 100000 in
theorem kX9_frees (l : Launch) (D : va_G) (ca : Nat → ClassId) (aLw : Nat → Nat) (aWh : Nat → Nat) (aRd : Nat → Nat) (lw_numbers : Nat → Int) (wh_base : Int) (wh_parted : Int) (v1 : Int) (Ro : Int)
    (hf : fX9_frees v1 lw_numbers wh_parted = some Ro) : Zc l D ca yX9_frees cX9_frees 2 (some .boolean) { frames := 0, cells := 0, slots := 0, locals := 0 } [.ref (aWh 0), .int (zI v1)] [((aLw 0), .inr (4, [.ref (aLw 1), .ref (aLw 2)])), ((aLw 1), .inl (ca 0, 11, .inl (zA lw_numbers))), ((aWh 0), .inr (9, [.ref (aLw 0), .ref (aRd 0), .int (zI wh_base), .int (zI wh_parted)]))] (oiX9_frees Ro) (oX9_frees ca aLw aWh aRd lw_numbers wh_base wh_parted Ro) := by
  refine ctr_of (lv := [(0, .ref (aWh 0)), (1, .int (zI v1))]) (by decide +kernel) (Nat.le_of_ble_eq_true rfl) rfl (fun Γ hl0 C E hnm => ?_)
  have H33 : fX9_frees_33 = some Ro → Zd D Γ 0 0 [((aLw 0), .inr (4, [.ref (aLw 1), .ref (aLw 2)])), ((aLw 1), .inl (ca 0, 11, .inl (zA lw_numbers))), ((aWh 0), .inr (9, [.ref (aLw 0), .ref (aRd 0), .int (zI wh_base), .int (zI wh_parted)]))] 33 [] [] := by
    intro  hf
    unfold fX9_frees_33 at hf
    refine g_iconst (pc := 33) C dX9_frees_33 ?_
    refine g_goto (pc := 34) C (tgt := 38) dX9_frees_34 (by decide) ?_
    exact g_zret (pc := 38) C hf E (by decide) rfl (fun _ => 0) [0, 1, 2] (by decide) rfl rfl (Nat.le_refl _) (Nat.le_refl _) dX9_frees_38
  have H37 : fX9_frees_37 = some Ro → Zd D Γ 0 0 [((aLw 0), .inr (4, [.ref (aLw 1), .ref (aLw 2)])), ((aLw 1), .inl (ca 0, 11, .inl (zA lw_numbers))), ((aWh 0), .inr (9, [.ref (aLw 0), .ref (aRd 0), .int (zI wh_base), .int (zI wh_parted)]))] 37 [] [] := by
    intro  hf
    unfold fX9_frees_37 at hf
    refine g_iconst (pc := 37) C dX9_frees_37 ?_
    exact g_zret (pc := 38) C hf E (by decide) rfl (fun _ => 0) [0, 1, 2] (by decide) rfl rfl (Nat.le_refl _) (Nat.le_refl _) dX9_frees_38
  unfold fX9_frees at hf
  refine g_iload_n (pc := 0) C 1 dX9_frees_0 rfl rfl ?_
  refine g_aload_n (pc := 1) C 0 dX9_frees_1 rfl rfl ?_
  refine g_get (pc := 2) C zf_X9_19 2 rfl rfl dX9_frees_2 ?_
  refine g_get (pc := 5) C zf_X9_27 0 rfl rfl dX9_frees_5 ?_
  refine g_iconst (pc := 8) C dX9_frees_8 ?_
  refine g_ialdK (pc := 9) C 1 1 rfl rfl (Nat.le_of_ble_eq_true rfl) (Nat.le_of_ble_eq_true rfl) dX9_frees_9 ?_
  refine g_icmp_ge (pc := 10) C (tgt := 33) dX9_frees_10 (by decide) hf (fun hf => ?_) (fun hf => ?_)
  · refine g_sub [0, 1, 2] [] (by decide) rfl rfl rfl ?_
    exact H33  hf
  · refine g_aload_n (pc := 13) C 0 dX9_frees_13 rfl rfl ?_
    refine g_get (pc := 14) C zf_X9_15 2 rfl rfl dX9_frees_14 ?_
    refine g_if_eq (pc := 17) C (tgt := 37) dX9_frees_17 (by decide) hf (fun hf => ?_) (fun hf => ?_)
    · refine g_sub [0, 1, 2] [] (by decide) rfl rfl rfl ?_
      exact H37  hf
    · refine g_iload_n (pc := 20) C 1 dX9_frees_20 rfl rfl ?_
      refine g_aload_n (pc := 21) C 0 dX9_frees_21 rfl rfl ?_
      refine g_get (pc := 22) C zf_X9_19 2 rfl rfl dX9_frees_22 ?_
      refine g_get (pc := 25) C zf_X9_27 0 rfl rfl dX9_frees_25 ?_
      refine g_iconst (pc := 28) C dX9_frees_28 ?_
      refine g_ialdK (pc := 29) C 3 1 rfl rfl (Nat.le_of_ble_eq_true rfl) (Nat.le_of_ble_eq_true rfl) dX9_frees_29 ?_
      refine g_icmp_lt (pc := 30) C (tgt := 37) dX9_frees_30 (by decide) hf (fun hf => ?_) (fun hf => ?_)
      · refine g_sub [0, 1, 2] [] (by decide) rfl rfl rfl ?_
        exact H37  hf
      · refine g_sub [0, 1, 2] [] (by decide) rfl rfl rfl ?_
        exact H33  hf
def oX9_passRun (ca : Nat → ClassId) (aLw : Nat → Nat) (aRd : Nat → Nat) (aWh : Nat → Nat) (lw_numbers : Nat → Int) (rd_runFrom : Nat → Int) (rd_runTo : Nat → Int) (rd_runDrive : Nat → Int) (rd_acts : Int) (rd_total : Int) (rd_drive : Int) (rd_runs : Int) (Ro : Int × Int) : (Nat → Nat) → va_W := fun _ => [((aLw 0), .inr (4, [.ref (aLw 1), .ref (aLw 2)])), ((aLw 1), .inl (ca 0, 11, .inl (zA lw_numbers))), ((aRd 0), .inr (6, [.ref (aRd 1), .ref (aRd 2), .ref (aRd 3), .ref (aRd 4), .ref (aRd 5), .int (zI rd_acts), .int (zI rd_total), .int (zI rd_drive), .int (zI rd_runs)])), ((aRd 3), .inl (ca 0, 60, .inl (zA rd_runFrom))), ((aRd 4), .inl (ca 0, 60, .inl (zA rd_runTo))), ((aRd 5), .inl (ca 0, 60, .inl (zA rd_runDrive))), ((aWh 0), .inr (9, [.ref (aLw 0), .ref (aRd 0), .int (zI (Ro.1)), .int (zI (Ro.2))]))]
def oiX9_passRun (Ro : Int × Int) : Option Value := none
set_option maxRecDepth 100000 in
theorem kX9_passRun (l : Launch) (D : va_G) (ca : Nat → ClassId) (aLw : Nat → Nat) (aRd : Nat → Nat) (aWh : Nat → Nat) (lw_numbers : Nat → Int) (rd_runFrom : Nat → Int) (rd_runTo : Nat → Int) (rd_runDrive : Nat → Int) (rd_acts : Int) (rd_total : Int) (rd_drive : Int) (rd_runs : Int) (wh_base : Int) (wh_parted : Int) (v1 : Int) (Ro : Int × Int)
    (hf : fX9_passRun v1 lw_numbers rd_runFrom rd_runTo rd_runDrive wh_base wh_parted = some Ro) : Zc l D ca yX9_passRun cX9_passRun 3 none { frames := 1, cells := 0, slots := 0, locals := 21 } [.ref (aWh 0), .int (zI v1)] [((aLw 0), .inr (4, [.ref (aLw 1), .ref (aLw 2)])), ((aLw 1), .inl (ca 0, 11, .inl (zA lw_numbers))), ((aRd 0), .inr (6, [.ref (aRd 1), .ref (aRd 2), .ref (aRd 3), .ref (aRd 4), .ref (aRd 5), .int (zI rd_acts), .int (zI rd_total), .int (zI rd_drive), .int (zI rd_runs)])), ((aRd 3), .inl (ca 0, 60, .inl (zA rd_runFrom))), ((aRd 4), .inl (ca 0, 60, .inl (zA rd_runTo))), ((aRd 5), .inl (ca 0, 60, .inl (zA rd_runDrive))), ((aWh 0), .inr (9, [.ref (aLw 0), .ref (aRd 0), .int (zI wh_base), .int (zI wh_parted)]))] (oiX9_passRun Ro) (oX9_passRun ca aLw aRd aWh lw_numbers rd_runFrom rd_runTo rd_runDrive rd_acts rd_total rd_drive rd_runs Ro) := by
  refine ctr_of (lv := [(0, .ref (aWh 0)), (1, .int (zI v1))]) (by decide +kernel) (Nat.le_of_ble_eq_true rfl) rfl (fun Γ hl0 C E hnm => ?_)
  unfold fX9_passRun at hf
  refine g_aload_n (pc := 0) C 0 dX9_passRun_0 rfl rfl ?_
  refine g_get (pc := 1) C zf_X9_23 6 rfl rfl dX9_passRun_1 ?_
  refine g_iload_n (pc := 4) C 1 dX9_passRun_4 rfl rfl ?_
  obtain ⟨r_5, hc_5, hf⟩ := Option.bind_eq_some_iff.mp hf
  refine g_callV (pc := 5) C hl0 (wr := [((aLw 0), .inr (4, [.ref (aLw 1), .ref (aLw 2)])), ((aLw 1), .inl (ca 0, 11, .inl (zA lw_numbers))), ((aRd 5), .inl (ca 0, 60, .inl (zA rd_runDrive))), ((aWh 0), .inr (9, [.ref (aLw 0), .ref (aRd 0), .int (zI wh_base), .int (zI wh_parted)]))]) (k' := 0) (n' := 0) (ws' := fun _ => [((aLw 0), .inr (4, [.ref (aLw 1), .ref (aLw 2)])), ((aLw 1), .inl (ca 0, 11, .inl (zA lw_numbers))), ((aRd 5), .inl (ca 0, 60, .inl (zA rd_runDrive))), ((aWh 0), .inr (9, [.ref (aLw 0), .ref (aRd 0), .int (zI wh_base), .int (zI wh_parted)])), ((aRd 0), .inr (6, [.ref (aRd 1), .ref (aRd 2), .ref (aRd 3), .ref (aRd 4), .ref (aRd 5), .int (zI rd_acts), .int (zI rd_total), .int (zI rd_drive), .int (zI rd_runs)])), ((aRd 3), .inl (ca 0, 60, .inl (zA rd_runFrom))), ((aRd 4), .inl (ca 0, 60, .inl (zA rd_runTo)))]) (st' := [.int (zI r_5)]) (kX6_runLength l D ca aRd rd_runFrom rd_runTo rd_acts rd_total rd_drive rd_runs v1 r_5 hc_5) wml_RX9_33 wim_X6_runLength wse_X6_runLength win_RX6 wco_X6_runLength (nA := 1) rfl (by decide +kernel)  ⟨(Nat.le_of_ble_eq_true rfl), (Nat.le_of_ble_eq_true rfl)⟩ (Nat.le_refl _) (Nat.le_refl _) rfl (Nat.le_of_ble_eq_true rfl) dX9_passRun_5 2 6 rfl rfl rfl [2, 3, 4] [0, 1, 5, 6] rfl rfl rfl (by decide) (by decide) (by decide) rfl rfl (fun _ => rfl) rfl (fun _ => ?_)
  refine g_istore_n (pc := 8) C (lv' := [(2, .int (zI r_5)), (0, .ref (aWh 0)), (1, .int (zI v1))]) dX9_passRun_8 rfl (Nat.le_of_ble_eq_true rfl) rfl ?_
  refine g_aload_n (pc := 9) C 1 dX9_passRun_9 rfl rfl ?_
  refine g_iload_n (pc := 10) C 0 dX9_passRun_10 rfl rfl ?_
  obtain ⟨r_11, hc_11, hf⟩ := Option.bind_eq_some_iff.mp hf
  refine g_callV (pc := 11) C hl0 (wr := [((aRd 5), .inl (ca 0, 60, .inl (zA rd_runDrive))), ((aRd 0), .inr (6, [.ref (aRd 1), .ref (aRd 2), .ref (aRd 3), .ref (aRd 4), .ref (aRd 5), .int (zI rd_acts), .int (zI rd_total), .int (zI rd_drive), .int (zI rd_runs)])), ((aRd 3), .inl (ca 0, 60, .inl (zA rd_runFrom))), ((aRd 4), .inl (ca 0, 60, .inl (zA rd_runTo)))]) (k' := 0) (n' := 0) (ws' := fun _ => [((aRd 5), .inl (ca 0, 60, .inl (zA rd_runDrive))), ((aRd 0), .inr (6, [.ref (aRd 1), .ref (aRd 2), .ref (aRd 3), .ref (aRd 4), .ref (aRd 5), .int (zI rd_acts), .int (zI rd_total), .int (zI rd_drive), .int (zI rd_runs)])), ((aRd 3), .inl (ca 0, 60, .inl (zA rd_runFrom))), ((aRd 4), .inl (ca 0, 60, .inl (zA rd_runTo))), ((aLw 0), .inr (4, [.ref (aLw 1), .ref (aLw 2)])), ((aLw 1), .inl (ca 0, 11, .inl (zA lw_numbers))), ((aWh 0), .inr (9, [.ref (aLw 0), .ref (aRd 0), .int (zI wh_base), .int (zI wh_parted)]))]) (st' := [.int (zI r_11)]) (kX9_frees l D ca aLw aWh aRd lw_numbers wh_base wh_parted r_5 r_11 hc_11) wml_RX9_39 wim_X9_frees wse_X9_frees win_RX9 wco_X9_frees (nA := 1) rfl (by decide +kernel)  ⟨(Nat.le_of_ble_eq_true rfl), (Nat.le_of_ble_eq_true rfl)⟩ (Nat.le_refl _) (Nat.le_refl _) rfl (Nat.le_of_ble_eq_true rfl) dX9_passRun_11 3 9 rfl rfl rfl [0, 1, 3] [2, 4, 5, 6] rfl rfl rfl (by decide) (by decide) (by decide) rfl rfl (fun _ => rfl) rfl (fun _ => ?_)
  refine g_if_eq (pc := 14) C (tgt := 38) dX9_passRun_14 (by decide) hf (fun hf => ?_) (fun hf => ?_)
  · refine g_iload_n (pc := 38) C 0 dX9_passRun_38 rfl rfl ?_
    refine g_aload_n (pc := 39) C 1 dX9_passRun_39 rfl rfl ?_
    refine g_get (pc := 40) C zf_X9_19 6 rfl rfl dX9_passRun_40 ?_
    refine g_get (pc := 43) C zf_X9_27 4 rfl rfl dX9_passRun_43 ?_
    refine g_iconst (pc := 46) C dX9_passRun_46 ?_
    refine g_ialdK (pc := 47) C 2 5 rfl rfl (Nat.le_of_ble_eq_true rfl) (Nat.le_of_ble_eq_true rfl) dX9_passRun_47 ?_
    refine g_icmp_lt (pc := 48) C (tgt := 56) dX9_passRun_48 (by decide) hf (fun hf => ?_) (fun hf => ?_)
    · exact g_vret (pc := 56) C hf E rfl (fun _ => 0) [4, 5, 1, 2, 3, 0, 6] (by decide) rfl rfl (Nat.le_refl _) (Nat.le_refl _) dX9_passRun_56
    · refine g_aload_n (pc := 51) C 1 dX9_passRun_51 rfl rfl ?_
      refine g_iconst (pc := 52) C dX9_passRun_52 ?_
      refine g_put (pc := 53) C zf_X9_15 tyX9 tyX9_ok nmX9 (v := .int (zI 1)) (ws' := [((aRd 5), .inl (ca 0, 60, .inl (zA rd_runDrive))), ((aRd 0), .inr (6, [.ref (aRd 1), .ref (aRd 2), .ref (aRd 3), .ref (aRd 4), .ref (aRd 5), .int (zI rd_acts), .int (zI rd_total), .int (zI rd_drive), .int (zI rd_runs)])), ((aRd 3), .inl (ca 0, 60, .inl (zA rd_runFrom))), ((aRd 4), .inl (ca 0, 60, .inl (zA rd_runTo))), ((aLw 0), .inr (4, [.ref (aLw 1), .ref (aLw 2)])), ((aLw 1), .inl (ca 0, 11, .inl (zA lw_numbers))), ((aWh 0), .inr (9, [.ref (aLw 0), .ref (aRd 0), .int (zI wh_base), .int (zI 1)]))]) 6 rfl rfl rfl (by decide) (by decide) (Nat.le_of_ble_eq_true rfl) rfl rfl dX9_passRun_53 ?_
      exact g_vret (pc := 56) C hf E rfl (fun _ => 0) [4, 5, 1, 2, 3, 0, 6] (by decide) rfl rfl (Nat.le_refl _) (Nat.le_refl _) dX9_passRun_56
  · refine g_aload_n (pc := 17) C 1 dX9_passRun_17 rfl rfl ?_
    refine g_aload_n (pc := 18) C 1 dX9_passRun_18 rfl rfl ?_
    refine g_get (pc := 19) C zf_X9_23 6 rfl rfl dX9_passRun_19 ?_
    refine g_get (pc := 22) C zf_X9_43 1 rfl rfl dX9_passRun_22 ?_
    refine g_iload_n (pc := 25) C 2 dX9_passRun_25 rfl rfl ?_
    refine g_iald (pc := 26) C (N := 60) 0 rfl rfl (Nat.le_of_ble_eq_true rfl) dX9_passRun_26 hf (fun hf => ?_)
    refine g_put (pc := 27) C zf_X9_9 tyX9 tyX9_ok nmX9 (v := .int (zI (rd_runDrive v1.toNat))) (ws' := [((aRd 5), .inl (ca 0, 60, .inl (zA rd_runDrive))), ((aRd 0), .inr (6, [.ref (aRd 1), .ref (aRd 2), .ref (aRd 3), .ref (aRd 4), .ref (aRd 5), .int (zI rd_acts), .int (zI rd_total), .int (zI rd_drive), .int (zI rd_runs)])), ((aRd 3), .inl (ca 0, 60, .inl (zA rd_runFrom))), ((aRd 4), .inl (ca 0, 60, .inl (zA rd_runTo))), ((aLw 0), .inr (4, [.ref (aLw 1), .ref (aLw 2)])), ((aLw 1), .inl (ca 0, 11, .inl (zA lw_numbers))), ((aWh 0), .inr (9, [.ref (aLw 0), .ref (aRd 0), .int (zI (rd_runDrive v1.toNat)), .int (zI wh_parted)]))]) 6 rfl rfl rfl rfl rfl (Nat.le_of_ble_eq_true rfl) rfl rfl dX9_passRun_27 ?_
    refine g_aload_n (pc := 30) C 1 dX9_passRun_30 rfl rfl ?_
    refine g_iconst (pc := 31) C dX9_passRun_31 ?_
    refine g_put (pc := 32) C zf_X9_15 tyX9 tyX9_ok nmX9 (v := .int (zI 0)) (ws' := [((aRd 5), .inl (ca 0, 60, .inl (zA rd_runDrive))), ((aRd 0), .inr (6, [.ref (aRd 1), .ref (aRd 2), .ref (aRd 3), .ref (aRd 4), .ref (aRd 5), .int (zI rd_acts), .int (zI rd_total), .int (zI rd_drive), .int (zI rd_runs)])), ((aRd 3), .inl (ca 0, 60, .inl (zA rd_runFrom))), ((aRd 4), .inl (ca 0, 60, .inl (zA rd_runTo))), ((aLw 0), .inr (4, [.ref (aLw 1), .ref (aLw 2)])), ((aLw 1), .inl (ca 0, 11, .inl (zA lw_numbers))), ((aWh 0), .inr (9, [.ref (aLw 0), .ref (aRd 0), .int (zI (rd_runDrive v1.toNat)), .int (zI 0)]))]) 6 rfl rfl rfl (by decide) (by decide) (Nat.le_of_ble_eq_true rfl) rfl rfl dX9_passRun_32 ?_
    refine g_goto (pc := 35) C (tgt := 56) dX9_passRun_35 (by decide) ?_
    exact g_vret (pc := 56) C hf E rfl (fun _ => 0) [4, 5, 1, 2, 3, 0, 6] (by decide) rfl rfl (Nat.le_refl _) (Nat.le_refl _) dX9_passRun_56
def oX9_passRuns (ca : Nat → ClassId) (aLw : Nat → Nat) (aRd : Nat → Nat) (aWh : Nat → Nat) (lw_numbers : Nat → Int) (rd_runFrom : Nat → Int) (rd_runTo : Nat → Int) (rd_runDrive : Nat → Int) (rd_acts : Int) (rd_total : Int) (rd_drive : Int) (rd_runs : Int) (Ro : Int × Int) : (Nat → Nat) → va_W := fun _ => [((aLw 0), .inr (4, [.ref (aLw 1), .ref (aLw 2)])), ((aLw 1), .inl (ca 0, 11, .inl (zA lw_numbers))), ((aRd 0), .inr (6, [.ref (aRd 1), .ref (aRd 2), .ref (aRd 3), .ref (aRd 4), .ref (aRd 5), .int (zI rd_acts), .int (zI rd_total), .int (zI rd_drive), .int (zI rd_runs)])), ((aRd 3), .inl (ca 0, 60, .inl (zA rd_runFrom))), ((aRd 4), .inl (ca 0, 60, .inl (zA rd_runTo))), ((aRd 5), .inl (ca 0, 60, .inl (zA rd_runDrive))), ((aWh 0), .inr (9, [.ref (aLw 0), .ref (aRd 0), .int (zI (Ro.1)), .int (zI (Ro.2))]))]
def oiX9_passRuns (Ro : Int × Int) : Option Value := none
set_option maxRecDepth 100000 in
theorem kX9_passRuns (l : Launch) (D : va_G) (ca : Nat → ClassId) (aLw : Nat → Nat) (aRd : Nat → Nat) (aWh : Nat → Nat) (lw_numbers : Nat → Int) (rd_runFrom : Nat → Int) (rd_runTo : Nat → Int) (rd_runDrive : Nat → Int) (rd_acts : Int) (rd_total : Int) (rd_drive : Int) (rd_runs : Int) (wh_base : Int) (wh_parted : Int) (v1 : Int) (Ro : Int × Int)
    (hf : fX9_passRuns v1 lw_numbers rd_runFrom rd_runTo rd_runDrive wh_base wh_parted = some Ro) : Zc l D ca yX9_passRuns cX9_passRuns 3 none { frames := 2, cells := 0, slots := 0, locals := 43 } [.ref (aWh 0), .int (zI v1)] [((aLw 0), .inr (4, [.ref (aLw 1), .ref (aLw 2)])), ((aLw 1), .inl (ca 0, 11, .inl (zA lw_numbers))), ((aRd 0), .inr (6, [.ref (aRd 1), .ref (aRd 2), .ref (aRd 3), .ref (aRd 4), .ref (aRd 5), .int (zI rd_acts), .int (zI rd_total), .int (zI rd_drive), .int (zI rd_runs)])), ((aRd 3), .inl (ca 0, 60, .inl (zA rd_runFrom))), ((aRd 4), .inl (ca 0, 60, .inl (zA rd_runTo))), ((aRd 5), .inl (ca 0, 60, .inl (zA rd_runDrive))), ((aWh 0), .inr (9, [.ref (aLw 0), .ref (aRd 0), .int (zI wh_base), .int (zI wh_parted)]))] (oiX9_passRuns Ro) (oX9_passRuns ca aLw aRd aWh lw_numbers rd_runFrom rd_runTo rd_runDrive rd_acts rd_total rd_drive rd_runs Ro) := by
  refine ctr_of (lv := [(0, .ref (aWh 0)), (1, .int (zI v1))]) (by decide +kernel) (Nat.le_of_ble_eq_true rfl) rfl (fun Γ hl0 C E hnm => ?_)
  have H12 : ∀  (n12 : Nat) (v2 : Int) (wh_base : Int) (wh_parted : Int), zlp (fX9_passRuns_12 v1 lw_numbers rd_runFrom rd_runTo rd_runDrive) n12 (v2, wh_base, wh_parted) = some Ro → Zd D Γ 0 0 [((aLw 0), .inr (4, [.ref (aLw 1), .ref (aLw 2)])), ((aLw 1), .inl (ca 0, 11, .inl (zA lw_numbers))), ((aRd 0), .inr (6, [.ref (aRd 1), .ref (aRd 2), .ref (aRd 3), .ref (aRd 4), .ref (aRd 5), .int (zI rd_acts), .int (zI rd_total), .int (zI rd_drive), .int (zI rd_runs)])), ((aRd 3), .inl (ca 0, 60, .inl (zA rd_runFrom))), ((aRd 4), .inl (ca 0, 60, .inl (zA rd_runTo))), ((aRd 5), .inl (ca 0, 60, .inl (zA rd_runDrive))), ((aWh 0), .inr (9, [.ref (aLw 0), .ref (aRd 0), .int (zI wh_base), .int (zI wh_parted)]))] 12 [(0, .ref (aWh 0)), (1, .int (zI v1)), (2, .int (zI v2))] [] := by
    intro n12
    induction n12 with
    | zero =>
      intro v2 wh_base wh_parted hf
      exact zno hf
    | succ n12 ih12 =>
      intro v2 wh_base wh_parted hf
      rw [zlp_s] at hf
      unfold fX9_passRuns_12 at hf
      dsimp only at hf
      refine g_iload_n (pc := 12) C 2 dX9_passRuns_12 rfl rfl ?_
      refine g_iload_n (pc := 13) C 1 dX9_passRuns_13 rfl rfl ?_
      refine g_icmp_ge (pc := 14) C (tgt := 28) dX9_passRuns_14 (by decide) hf (fun hf => ?_) (fun hf => ?_)
      · exact g_vret (pc := 28) C hf E rfl (fun _ => 0) [0, 1, 2, 3, 4, 5, 6] (by decide) rfl rfl (Nat.le_refl _) (Nat.le_refl _) dX9_passRuns_28
      · refine g_aload_n (pc := 17) C 0 dX9_passRuns_17 rfl rfl ?_
        refine g_iload_n (pc := 18) C 2 dX9_passRuns_18 rfl rfl ?_
        obtain ⟨⟨wh_base_19, wh_parted_19⟩, hc_19, hf⟩ := Option.bind_eq_some_iff.mp hf
        dsimp only at hf
        refine g_callV (pc := 19) C hl0 (wr := []) (k' := 0) (n' := 0) (ws' := fun _ => [((aLw 0), .inr (4, [.ref (aLw 1), .ref (aLw 2)])), ((aLw 1), .inl (ca 0, 11, .inl (zA lw_numbers))), ((aRd 0), .inr (6, [.ref (aRd 1), .ref (aRd 2), .ref (aRd 3), .ref (aRd 4), .ref (aRd 5), .int (zI rd_acts), .int (zI rd_total), .int (zI rd_drive), .int (zI rd_runs)])), ((aRd 3), .inl (ca 0, 60, .inl (zA rd_runFrom))), ((aRd 4), .inl (ca 0, 60, .inl (zA rd_runTo))), ((aRd 5), .inl (ca 0, 60, .inl (zA rd_runDrive))), ((aWh 0), .inr (9, [.ref (aLw 0), .ref (aRd 0), .int (zI wh_base_19), .int (zI wh_parted_19)]))]) (st' := []) (kX9_passRun l D ca aLw aRd aWh lw_numbers rd_runFrom rd_runTo rd_runDrive rd_acts rd_total rd_drive rd_runs wh_base wh_parted v2 (wh_base_19, wh_parted_19) hc_19) wml_RX9_46 wim_X9_passRun wse_X9_passRun win_RX9 wco_X9_passRun (nA := 1) rfl (by decide +kernel)  ⟨(Nat.le_of_ble_eq_true rfl), (Nat.le_of_ble_eq_true rfl)⟩ (Nat.le_refl _) (Nat.le_refl _) rfl (Nat.le_of_ble_eq_true rfl) dX9_passRuns_19 6 9 rfl rfl rfl [0, 1, 2, 3, 4, 5, 6] [] rfl rfl rfl (by decide) (by decide) (by decide) rfl rfl (fun _ => rfl) rfl (fun _ => ?_)
        refine g_iinc (pc := 22) C 2 (lv' := [(2, .int (zI (v2 + 1))), (0, .ref (aWh 0)), (1, .int (zI v1))]) dX9_passRuns_22 rfl (Nat.le_of_ble_eq_true rfl) rfl ?_
        refine g_goto (pc := 25) C (tgt := 12) dX9_passRuns_25 (by decide) ?_
        refine g_sub [0, 1, 2, 3, 4, 5, 6] [1, 2, 0] (by decide) rfl rfl rfl ?_
        exact ih12 _ _ _ hf
  unfold fX9_passRuns at hf
  refine g_aload_n (pc := 0) C 0 dX9_passRuns_0 rfl rfl ?_
  refine g_iconst (pc := 1) C dX9_passRuns_1 ?_
  refine g_put (pc := 2) C zf_X9_9 tyX9 tyX9_ok nmX9 (v := .int (zI 0)) (ws' := [((aLw 0), .inr (4, [.ref (aLw 1), .ref (aLw 2)])), ((aLw 1), .inl (ca 0, 11, .inl (zA lw_numbers))), ((aRd 0), .inr (6, [.ref (aRd 1), .ref (aRd 2), .ref (aRd 3), .ref (aRd 4), .ref (aRd 5), .int (zI rd_acts), .int (zI rd_total), .int (zI rd_drive), .int (zI rd_runs)])), ((aRd 3), .inl (ca 0, 60, .inl (zA rd_runFrom))), ((aRd 4), .inl (ca 0, 60, .inl (zA rd_runTo))), ((aRd 5), .inl (ca 0, 60, .inl (zA rd_runDrive))), ((aWh 0), .inr (9, [.ref (aLw 0), .ref (aRd 0), .int (zI 0), .int (zI wh_parted)]))]) 6 rfl rfl rfl rfl rfl (Nat.le_of_ble_eq_true rfl) rfl rfl dX9_passRuns_2 ?_
  refine g_aload_n (pc := 5) C 0 dX9_passRuns_5 rfl rfl ?_
  refine g_iconst (pc := 6) C dX9_passRuns_6 ?_
  refine g_put (pc := 7) C zf_X9_15 tyX9 tyX9_ok nmX9 (v := .int (zI 0)) (ws' := [((aLw 0), .inr (4, [.ref (aLw 1), .ref (aLw 2)])), ((aLw 1), .inl (ca 0, 11, .inl (zA lw_numbers))), ((aRd 0), .inr (6, [.ref (aRd 1), .ref (aRd 2), .ref (aRd 3), .ref (aRd 4), .ref (aRd 5), .int (zI rd_acts), .int (zI rd_total), .int (zI rd_drive), .int (zI rd_runs)])), ((aRd 3), .inl (ca 0, 60, .inl (zA rd_runFrom))), ((aRd 4), .inl (ca 0, 60, .inl (zA rd_runTo))), ((aRd 5), .inl (ca 0, 60, .inl (zA rd_runDrive))), ((aWh 0), .inr (9, [.ref (aLw 0), .ref (aRd 0), .int (zI 0), .int (zI 0)]))]) 6 rfl rfl rfl (by decide) (by decide) (Nat.le_of_ble_eq_true rfl) rfl rfl dX9_passRuns_7 ?_
  refine g_iconst (pc := 10) C dX9_passRuns_10 ?_
  refine g_istore_n (pc := 11) C (lv' := [(2, .int (zI 0)), (0, .ref (aWh 0)), (1, .int (zI v1))]) dX9_passRuns_11 rfl (Nat.le_of_ble_eq_true rfl) rfl ?_
  refine g_sub [0, 1, 2, 3, 4, 5, 6] [1, 2, 0] (by decide) rfl rfl rfl ?_
  exact H12 _ _ _ _ hf
def oX9_leftNow (ca : Nat → ClassId) (aLw : Nat → Nat) (aRd : Nat → Nat) (aWh : Nat → Nat) (lw_numbers : Nat → Int) (rd_runFrom : Nat → Int) (rd_runTo : Nat → Int) (rd_runDrive : Nat → Int) (rd_acts : Int) (rd_total : Int) (rd_drive : Int) (rd_runs : Int) (Ro : Int × Int × Int) : (Nat → Nat) → va_W := fun _ => [((aLw 0), .inr (4, [.ref (aLw 1), .ref (aLw 2)])), ((aLw 1), .inl (ca 0, 11, .inl (zA lw_numbers))), ((aRd 0), .inr (6, [.ref (aRd 1), .ref (aRd 2), .ref (aRd 3), .ref (aRd 4), .ref (aRd 5), .int (zI rd_acts), .int (zI rd_total), .int (zI rd_drive), .int (zI rd_runs)])), ((aRd 3), .inl (ca 0, 60, .inl (zA rd_runFrom))), ((aRd 4), .inl (ca 0, 60, .inl (zA rd_runTo))), ((aRd 5), .inl (ca 0, 60, .inl (zA rd_runDrive))), ((aWh 0), .inr (9, [.ref (aLw 0), .ref (aRd 0), .int (zI (Ro.2.1)), .int (zI (Ro.2.2))]))]
def oiX9_leftNow (Ro : Int × Int × Int) : Option Value := (some (.int (zI Ro.1)))
set_option maxRecDepth 100000 in
theorem kX9_leftNow (l : Launch) (D : va_G) (ca : Nat → ClassId) (aLw : Nat → Nat) (aRd : Nat → Nat) (aWh : Nat → Nat) (lw_numbers : Nat → Int) (rd_runFrom : Nat → Int) (rd_runTo : Nat → Int) (rd_runDrive : Nat → Int) (rd_acts : Int) (rd_total : Int) (rd_drive : Int) (rd_runs : Int) (wh_base : Int) (wh_parted : Int)  (Ro : Int × Int × Int)
    (hf : fX9_leftNow lw_numbers rd_runFrom rd_runTo rd_runDrive rd_drive rd_runs wh_base wh_parted = some Ro) : Zc l D ca yX9_leftNow cX9_leftNow 1 (some .int) { frames := 3, cells := 0, slots := 0, locals := 65 } [.ref (aWh 0)] [((aLw 0), .inr (4, [.ref (aLw 1), .ref (aLw 2)])), ((aLw 1), .inl (ca 0, 11, .inl (zA lw_numbers))), ((aRd 0), .inr (6, [.ref (aRd 1), .ref (aRd 2), .ref (aRd 3), .ref (aRd 4), .ref (aRd 5), .int (zI rd_acts), .int (zI rd_total), .int (zI rd_drive), .int (zI rd_runs)])), ((aRd 3), .inl (ca 0, 60, .inl (zA rd_runFrom))), ((aRd 4), .inl (ca 0, 60, .inl (zA rd_runTo))), ((aRd 5), .inl (ca 0, 60, .inl (zA rd_runDrive))), ((aWh 0), .inr (9, [.ref (aLw 0), .ref (aRd 0), .int (zI wh_base), .int (zI wh_parted)]))] (oiX9_leftNow Ro) (oX9_leftNow ca aLw aRd aWh lw_numbers rd_runFrom rd_runTo rd_runDrive rd_acts rd_total rd_drive rd_runs Ro) := by
  refine ctr_of (lv := [(0, .ref (aWh 0))]) (by decide +kernel) (Nat.le_of_ble_eq_true rfl) rfl (fun Γ hl0 C E hnm => ?_)
  unfold fX9_leftNow at hf
  refine g_aload_n (pc := 0) C 0 dX9_leftNow_0 rfl rfl ?_
  refine g_aload_n (pc := 1) C 0 dX9_leftNow_1 rfl rfl ?_
  refine g_get (pc := 2) C zf_X9_23 6 rfl rfl dX9_leftNow_2 ?_
  refine g_get (pc := 5) C zf_X9_53 2 rfl rfl dX9_leftNow_5 ?_
  obtain ⟨⟨wh_base_8, wh_parted_8⟩, hc_8, hf⟩ := Option.bind_eq_some_iff.mp hf
  dsimp only at hf
  refine g_callV (pc := 8) C hl0 (wr := []) (k' := 0) (n' := 0) (ws' := fun _ => [((aLw 0), .inr (4, [.ref (aLw 1), .ref (aLw 2)])), ((aLw 1), .inl (ca 0, 11, .inl (zA lw_numbers))), ((aRd 0), .inr (6, [.ref (aRd 1), .ref (aRd 2), .ref (aRd 3), .ref (aRd 4), .ref (aRd 5), .int (zI rd_acts), .int (zI rd_total), .int (zI rd_drive), .int (zI rd_runs)])), ((aRd 3), .inl (ca 0, 60, .inl (zA rd_runFrom))), ((aRd 4), .inl (ca 0, 60, .inl (zA rd_runTo))), ((aRd 5), .inl (ca 0, 60, .inl (zA rd_runDrive))), ((aWh 0), .inr (9, [.ref (aLw 0), .ref (aRd 0), .int (zI wh_base_8), .int (zI wh_parted_8)]))]) (st' := []) (kX9_passRuns l D ca aLw aRd aWh lw_numbers rd_runFrom rd_runTo rd_runDrive rd_acts rd_total rd_drive rd_runs wh_base wh_parted rd_runs (wh_base_8, wh_parted_8) hc_8) wml_RX9_50 wim_X9_passRuns wse_X9_passRuns win_RX9 wco_X9_passRuns (nA := 1) rfl (by decide +kernel)  ⟨(Nat.le_of_ble_eq_true rfl), (Nat.le_of_ble_eq_true rfl)⟩ (Nat.le_refl _) (Nat.le_refl _) rfl (Nat.le_of_ble_eq_true rfl) dX9_leftNow_8 6 9 rfl rfl rfl [0, 1, 2, 3, 4, 5, 6] [] rfl rfl rfl (by decide) (by decide) (by decide) rfl rfl (fun _ => rfl) rfl (fun _ => ?_)
  refine g_iconst (pc := 11) C dX9_leftNow_11 ?_
  refine g_aload_n (pc := 12) C 0 dX9_leftNow_12 rfl rfl ?_
  refine g_get (pc := 13) C zf_X9_19 6 rfl rfl dX9_leftNow_13 ?_
  refine g_get (pc := 16) C zf_X9_27 0 rfl rfl dX9_leftNow_16 ?_
  refine g_iconst (pc := 19) C dX9_leftNow_19 ?_
  refine g_ialdK (pc := 20) C 0 1 rfl rfl (Nat.le_of_ble_eq_true rfl) (Nat.le_of_ble_eq_true rfl) dX9_leftNow_20 ?_
  refine g_aload_n (pc := 21) C 0 dX9_leftNow_21 rfl rfl ?_
  refine g_get (pc := 22) C zf_X9_23 6 rfl rfl dX9_leftNow_22 ?_
  refine g_get (pc := 25) C zf_X9_60 2 rfl rfl dX9_leftNow_25 ?_
  refine g_aload_n (pc := 28) C 0 dX9_leftNow_28 rfl rfl ?_
  refine g_get (pc := 29) C zf_X9_9 6 rfl rfl dX9_leftNow_29 ?_
  refine g_isub (pc := 32) C dX9_leftNow_32 ?_
  refine g_isub (pc := 33) C dX9_leftNow_33 ?_
  refine g_mmax (pc := 34) C wml_RX9_72 (Nat.le_of_ble_eq_true rfl) (Nat.le_of_ble_eq_true rfl) (Nat.zero_le _) (Nat.zero_le _) dX9_leftNow_34 hf (fun hf => ?_)
  exact g_iret (pc := 37) C hf E rfl (fun _ => 0) [0, 1, 2, 3, 4, 5, 6] (by decide) rfl rfl (Nat.le_refl _) (Nat.le_refl _) dX9_leftNow_37
def oX9_mostInSpells (ca : Nat → ClassId) (aLw : Nat → Nat) (aWh : Nat → Nat) (aRd : Nat → Nat) (lw_numbers : Nat → Int) (wh_base : Int) (wh_parted : Int) (Ro : Int) : (Nat → Nat) → va_W := fun _ => [((aLw 0), .inr (4, [.ref (aLw 1), .ref (aLw 2)])), ((aLw 1), .inl (ca 0, 11, .inl (zA lw_numbers))), ((aWh 0), .inr (9, [.ref (aLw 0), .ref (aRd 0), .int (zI wh_base), .int (zI wh_parted)]))]
def oiX9_mostInSpells (Ro : Int) : Option Value := (some (.int (zI Ro)))
set_option maxRecDepth 100000 in
theorem kX9_mostInSpells (l : Launch) (D : va_G) (ca : Nat → ClassId) (aLw : Nat → Nat) (aWh : Nat → Nat) (aRd : Nat → Nat) (lw_numbers : Nat → Int) (wh_base : Int) (wh_parted : Int) (v1 : Int) (v2 : Int) (v3 : Int) (Ro : Int)
    (hf : fX9_mostInSpells v1 v2 v3 lw_numbers = some Ro) : Zc l D ca yX9_mostInSpells cX9_mostInSpells 7 (some .int) { frames := 2, cells := 0, slots := 0, locals := 35 } [.ref (aWh 0), .int (zI v1), .int (zI v2), .int (zI v3)] [((aLw 0), .inr (4, [.ref (aLw 1), .ref (aLw 2)])), ((aLw 1), .inl (ca 0, 11, .inl (zA lw_numbers))), ((aWh 0), .inr (9, [.ref (aLw 0), .ref (aRd 0), .int (zI wh_base), .int (zI wh_parted)]))] (oiX9_mostInSpells Ro) (oX9_mostInSpells ca aLw aWh aRd lw_numbers wh_base wh_parted Ro) := by
  refine ctr_of (lv := [(0, .ref (aWh 0)), (1, .int (zI v1)), (2, .int (zI v2)), (3, .int (zI v3))]) (by decide +kernel) (Nat.le_of_ble_eq_true rfl) rfl (fun Γ hl0 C E hnm => ?_)
  unfold fX9_mostInSpells at hf
  refine g_iload_n (pc := 0) C 1 dX9_mostInSpells_0 rfl rfl ?_
  refine g_if_gt (pc := 1) C (tgt := 6) dX9_mostInSpells_1 (by decide) hf (fun hf => ?_) (fun hf => ?_)
  · refine g_iload_n (pc := 6) C 3 dX9_mostInSpells_6 rfl rfl ?_
    refine g_iload_n (pc := 7) C 1 dX9_mostInSpells_7 rfl rfl ?_
    refine g_isub (pc := 8) C dX9_mostInSpells_8 ?_
    refine g_iload_n (pc := 9) C 2 dX9_mostInSpells_9 rfl rfl ?_
    refine g_isub (pc := 10) C dX9_mostInSpells_10 ?_
    refine g_istore (pc := 11) C (lv' := [(4, .int (zI ((v3 - v1) - v2))), (0, .ref (aWh 0)), (1, .int (zI v1)), (2, .int (zI v2)), (3, .int (zI v3))]) dX9_mostInSpells_11 (Nat.le_of_ble_eq_true rfl) rfl ?_
    refine g_iload (pc := 13) C 0 dX9_mostInSpells_13 rfl ?_
    refine g_if_gt (pc := 15) C (tgt := 24) dX9_mostInSpells_15 (by decide) hf (fun hf => ?_) (fun hf => ?_)
    · refine g_aload_n (pc := 24) C 1 dX9_mostInSpells_24 rfl rfl ?_
      refine g_get (pc := 25) C zf_X9_19 2 rfl rfl dX9_mostInSpells_25 ?_
      refine g_get (pc := 28) C zf_X9_27 0 rfl rfl dX9_mostInSpells_28 ?_
      refine g_iconst (pc := 31) C dX9_mostInSpells_31 ?_
      refine g_ialdK (pc := 32) C 0 1 rfl rfl (Nat.le_of_ble_eq_true rfl) (Nat.le_of_ble_eq_true rfl) dX9_mostInSpells_32 ?_
      refine g_istore (pc := 33) C (lv' := [(5, .int (zI (lw_numbers 0))), (4, .int (zI ((v3 - v1) - v2))), (0, .ref (aWh 0)), (1, .int (zI v1)), (2, .int (zI v2)), (3, .int (zI v3))]) dX9_mostInSpells_33 (Nat.le_of_ble_eq_true rfl) rfl ?_
      refine g_iconst (pc := 35) C dX9_mostInSpells_35 ?_
      refine g_iload (pc := 36) C 0 dX9_mostInSpells_36 rfl ?_
      refine g_aload_n (pc := 38) C 2 dX9_mostInSpells_38 rfl rfl ?_
      refine g_iload (pc := 39) C 0 dX9_mostInSpells_39 rfl ?_
      obtain ⟨r_41, hc_41, hf⟩ := Option.bind_eq_some_iff.mp hf
      refine g_callV (pc := 41) C hl0 (wr := []) (k' := 0) (n' := 0) (ws' := fun _ => [((aLw 0), .inr (4, [.ref (aLw 1), .ref (aLw 2)])), ((aLw 1), .inl (ca 0, 11, .inl (zA lw_numbers))), ((aWh 0), .inr (9, [.ref (aLw 0), .ref (aRd 0), .int (zI wh_base), .int (zI wh_parted)]))]) (st' := [.int (zI r_41), .int (zI (lw_numbers 0)), .int (zI 1)]) (kX9_breakFrom l D ca aLw aWh aRd lw_numbers wh_base wh_parted (lw_numbers 0) r_41 hc_41) wml_RX9_89 wim_X9_breakFrom wse_X9_breakFrom win_RX9 wco_X9_breakFrom (nA := 1) rfl (by decide +kernel)  ⟨(Nat.le_of_ble_eq_true rfl), (Nat.le_of_ble_eq_true rfl)⟩ (Nat.le_refl _) (Nat.le_refl _) rfl (Nat.le_of_ble_eq_true rfl) dX9_mostInSpells_41 2 9 rfl rfl rfl [0, 1, 2] [] rfl rfl rfl (by decide) (by decide) (by decide) rfl rfl (fun _ => rfl) rfl (fun _ => ?_)
      refine g_iadd (pc := 44) C dX9_mostInSpells_44 ?_
      refine g_mmax (pc := 45) C wml_RX9_72 (Nat.le_of_ble_eq_true rfl) (Nat.le_of_ble_eq_true rfl) (Nat.zero_le _) (Nat.zero_le _) dX9_mostInSpells_45 hf (fun hf => ?_)
      refine g_istore (pc := 48) C (lv' := [(6, .int (zI (max 1 ((lw_numbers 0) + r_41)))), (5, .int (zI (lw_numbers 0))), (4, .int (zI ((v3 - v1) - v2))), (0, .ref (aWh 0)), (1, .int (zI v1)), (2, .int (zI v2)), (3, .int (zI v3))]) dX9_mostInSpells_48 (Nat.le_of_ble_eq_true rfl) rfl ?_
      refine g_iload_n (pc := 50) C 4 dX9_mostInSpells_50 rfl rfl ?_
      refine g_iload (pc := 51) C 2 dX9_mostInSpells_51 rfl ?_
      refine g_iload (pc := 53) C 0 dX9_mostInSpells_53 rfl ?_
      refine g_idivC (pc := 55) C dX9_mostInSpells_55 hf (fun hf => ?_)
      refine g_iload (pc := 56) C 1 dX9_mostInSpells_56 rfl ?_
      refine g_imul (pc := 58) C dX9_mostInSpells_58 ?_
      refine g_iadd (pc := 59) C dX9_mostInSpells_59 ?_
      refine g_iload (pc := 60) C 2 dX9_mostInSpells_60 rfl ?_
      refine g_iload (pc := 62) C 0 dX9_mostInSpells_62 rfl ?_
      refine g_iremC (pc := 64) C dX9_mostInSpells_64 hf (fun hf => ?_)
      refine g_iload (pc := 65) C 1 dX9_mostInSpells_65 rfl ?_
      refine g_mmin (pc := 67) C wml_RX9_95 (Nat.le_of_ble_eq_true rfl) (Nat.le_of_ble_eq_true rfl) (Nat.zero_le _) (Nat.zero_le _) dX9_mostInSpells_67 hf (fun hf => ?_)
      refine g_iadd (pc := 70) C dX9_mostInSpells_70 ?_
      exact g_iret (pc := 71) C hf E rfl (fun _ => 0) [0, 1, 2] (by decide) rfl rfl (Nat.le_refl _) (Nat.le_refl _) dX9_mostInSpells_71
    · refine g_iload_n (pc := 18) C 4 dX9_mostInSpells_18 rfl rfl ?_
      refine g_iload_n (pc := 19) C 2 dX9_mostInSpells_19 rfl rfl ?_
      refine g_mmin (pc := 20) C wml_RX9_95 (Nat.le_of_ble_eq_true rfl) (Nat.le_of_ble_eq_true rfl) (Nat.zero_le _) (Nat.zero_le _) dX9_mostInSpells_20 hf (fun hf => ?_)
      exact g_iret (pc := 23) C hf E rfl (fun _ => 0) [0, 1, 2] (by decide) rfl rfl (Nat.le_refl _) (Nat.le_refl _) dX9_mostInSpells_23
  · refine g_iconst (pc := 4) C dX9_mostInSpells_4 ?_
    exact g_iret (pc := 5) C hf E rfl (fun _ => 0) [0, 1, 2] (by decide) rfl rfl (Nat.le_refl _) (Nat.le_refl _) dX9_mostInSpells_5
def oX9_mostBehindRest (ca : Nat → ClassId) (aLw : Nat → Nat) (aRd : Nat → Nat) (aWh : Nat → Nat) (lw_numbers : Nat → Int) (rd_acts : Int) (rd_total : Int) (rd_drive : Int) (rd_runs : Int) (wh_base : Int) (wh_parted : Int) (Ro : Int) : (Nat → Nat) → va_W := fun _ => [((aLw 0), .inr (4, [.ref (aLw 1), .ref (aLw 2)])), ((aLw 1), .inl (ca 0, 11, .inl (zA lw_numbers))), ((aRd 0), .inr (6, [.ref (aRd 1), .ref (aRd 2), .ref (aRd 3), .ref (aRd 4), .ref (aRd 5), .int (zI rd_acts), .int (zI rd_total), .int (zI rd_drive), .int (zI rd_runs)])), ((aWh 0), .inr (9, [.ref (aLw 0), .ref (aRd 0), .int (zI wh_base), .int (zI wh_parted)]))]
def oiX9_mostBehindRest (Ro : Int) : Option Value := (some (.int (zI Ro)))
set_option maxRecDepth 100000 in
theorem kX9_mostBehindRest (l : Launch) (D : va_G) (ca : Nat → ClassId) (aLw : Nat → Nat) (aRd : Nat → Nat) (aWh : Nat → Nat) (lw_numbers : Nat → Int) (rd_acts : Int) (rd_total : Int) (rd_drive : Int) (rd_runs : Int) (wh_base : Int) (wh_parted : Int) (v1 : Int) (v2 : Int) (Ro : Int)
    (hf : fX9_mostBehindRest v1 v2 lw_numbers rd_drive wh_base wh_parted = some Ro) : Zc l D ca yX9_mostBehindRest cX9_mostBehindRest 5 (some .int) { frames := 3, cells := 0, slots := 0, locals := 61 } [.ref (aWh 0), .int (zI v1), .int (zI v2)] [((aLw 0), .inr (4, [.ref (aLw 1), .ref (aLw 2)])), ((aLw 1), .inl (ca 0, 11, .inl (zA lw_numbers))), ((aRd 0), .inr (6, [.ref (aRd 1), .ref (aRd 2), .ref (aRd 3), .ref (aRd 4), .ref (aRd 5), .int (zI rd_acts), .int (zI rd_total), .int (zI rd_drive), .int (zI rd_runs)])), ((aWh 0), .inr (9, [.ref (aLw 0), .ref (aRd 0), .int (zI wh_base), .int (zI wh_parted)]))] (oiX9_mostBehindRest Ro) (oX9_mostBehindRest ca aLw aRd aWh lw_numbers rd_acts rd_total rd_drive rd_runs wh_base wh_parted Ro) := by
  refine ctr_of (lv := [(0, .ref (aWh 0)), (1, .int (zI v1)), (2, .int (zI v2))]) (by decide +kernel) (Nat.le_of_ble_eq_true rfl) rfl (fun Γ hl0 C E hnm => ?_)
  have H66 : ∀ (v4 : Int), fX9_mostBehindRest_66 v2 v4 lw_numbers = some Ro → Zd D Γ 0 0 [((aLw 0), .inr (4, [.ref (aLw 1), .ref (aLw 2)])), ((aLw 1), .inl (ca 0, 11, .inl (zA lw_numbers))), ((aRd 0), .inr (6, [.ref (aRd 1), .ref (aRd 2), .ref (aRd 3), .ref (aRd 4), .ref (aRd 5), .int (zI rd_acts), .int (zI rd_total), .int (zI rd_drive), .int (zI rd_runs)])), ((aWh 0), .inr (9, [.ref (aLw 0), .ref (aRd 0), .int (zI wh_base), .int (zI wh_parted)]))] 66 [(0, .ref (aWh 0)), (2, .int (zI v2)), (4, .int (zI v4))] [] := by
    intro v4 hf
    unfold fX9_mostBehindRest_66 at hf
    refine g_aload_n (pc := 66) C 0 dX9_mostBehindRest_66 rfl rfl ?_
    refine g_iload (pc := 67) C 2 dX9_mostBehindRest_67 rfl ?_
    refine g_aload_n (pc := 69) C 0 dX9_mostBehindRest_69 rfl rfl ?_
    refine g_get (pc := 70) C zf_X9_19 3 rfl rfl dX9_mostBehindRest_70 ?_
    refine g_get (pc := 73) C zf_X9_27 0 rfl rfl dX9_mostBehindRest_73 ?_
    refine g_iconst (pc := 76) C dX9_mostBehindRest_76 ?_
    refine g_ialdK (pc := 77) C 1 1 rfl rfl (Nat.le_of_ble_eq_true rfl) (Nat.le_of_ble_eq_true rfl) dX9_mostBehindRest_77 ?_
    refine g_aload_n (pc := 78) C 0 dX9_mostBehindRest_78 rfl rfl ?_
    refine g_get (pc := 79) C zf_X9_19 3 rfl rfl dX9_mostBehindRest_79 ?_
    refine g_get (pc := 82) C zf_X9_27 0 rfl rfl dX9_mostBehindRest_82 ?_
    refine g_iconst (pc := 85) C dX9_mostBehindRest_85 ?_
    refine g_ialdK (pc := 86) C 3 1 rfl rfl (Nat.le_of_ble_eq_true rfl) (Nat.le_of_ble_eq_true rfl) dX9_mostBehindRest_86 ?_
    refine g_mmin (pc := 87) C wml_RX9_95 (Nat.le_of_ble_eq_true rfl) (Nat.le_of_ble_eq_true rfl) (Nat.zero_le _) (Nat.zero_le _) dX9_mostBehindRest_87 hf (fun hf => ?_)
    refine g_iload_n (pc := 90) C 1 dX9_mostBehindRest_90 rfl rfl ?_
    obtain ⟨r_91, hc_91, hf⟩ := Option.bind_eq_some_iff.mp hf
    refine g_callV (pc := 91) C hl0 (wr := [((aRd 0), .inr (6, [.ref (aRd 1), .ref (aRd 2), .ref (aRd 3), .ref (aRd 4), .ref (aRd 5), .int (zI rd_acts), .int (zI rd_total), .int (zI rd_drive), .int (zI rd_runs)]))]) (k' := 0) (n' := 0) (ws' := fun _ => [((aRd 0), .inr (6, [.ref (aRd 1), .ref (aRd 2), .ref (aRd 3), .ref (aRd 4), .ref (aRd 5), .int (zI rd_acts), .int (zI rd_total), .int (zI rd_drive), .int (zI rd_runs)])), ((aLw 0), .inr (4, [.ref (aLw 1), .ref (aLw 2)])), ((aLw 1), .inl (ca 0, 11, .inl (zA lw_numbers))), ((aWh 0), .inr (9, [.ref (aLw 0), .ref (aRd 0), .int (zI wh_base), .int (zI wh_parted)]))]) (st' := [.int (zI r_91)]) (kX9_mostInSpells l D ca aLw aWh aRd lw_numbers wh_base wh_parted v4 (min (lw_numbers 1) (lw_numbers 3)) v2 r_91 hc_91) wml_RX9_92 wim_X9_mostInSpells wse_X9_mostInSpells win_RX9 wco_X9_mostInSpells (nA := 3) rfl (by decide +kernel)  ⟨(Nat.le_of_ble_eq_true rfl), (Nat.le_of_ble_eq_true rfl)⟩ (Nat.le_refl _) (Nat.le_refl _) rfl (Nat.le_of_ble_eq_true rfl) dX9_mostBehindRest_91 3 9 rfl rfl rfl [0, 1, 3] [2] rfl rfl rfl (by decide) (by decide) (by decide) rfl rfl (fun _ => rfl) rfl (fun _ => ?_)
    exact g_iret (pc := 94) C hf E rfl (fun _ => 0) [1, 2, 0, 3] (by decide) rfl rfl (Nat.le_refl _) (Nat.le_refl _) dX9_mostBehindRest_94
  unfold fX9_mostBehindRest at hf
  refine g_aload_n (pc := 0) C 0 dX9_mostBehindRest_0 rfl rfl ?_
  refine g_get (pc := 1) C zf_X9_19 3 rfl rfl dX9_mostBehindRest_1 ?_
  refine g_get (pc := 4) C zf_X9_27 0 rfl rfl dX9_mostBehindRest_4 ?_
  refine g_iconst (pc := 7) C dX9_mostBehindRest_7 ?_
  refine g_ialdK (pc := 8) C 0 1 rfl rfl (Nat.le_of_ble_eq_true rfl) (Nat.le_of_ble_eq_true rfl) dX9_mostBehindRest_8 ?_
  refine g_istore_n (pc := 9) C (lv' := [(3, .int (zI (lw_numbers 0))), (0, .ref (aWh 0)), (1, .int (zI v1)), (2, .int (zI v2))]) dX9_mostBehindRest_9 rfl (Nat.le_of_ble_eq_true rfl) rfl ?_
  refine g_aload_n (pc := 10) C 1 dX9_mostBehindRest_10 rfl rfl ?_
  refine g_iload_n (pc := 11) C 2 dX9_mostBehindRest_11 rfl rfl ?_
  obtain ⟨r_12, hc_12, hf⟩ := Option.bind_eq_some_iff.mp hf
  refine g_callV (pc := 12) C hl0 (wr := [((aRd 0), .inr (6, [.ref (aRd 1), .ref (aRd 2), .ref (aRd 3), .ref (aRd 4), .ref (aRd 5), .int (zI rd_acts), .int (zI rd_total), .int (zI rd_drive), .int (zI rd_runs)]))]) (k' := 0) (n' := 0) (ws' := fun _ => [((aRd 0), .inr (6, [.ref (aRd 1), .ref (aRd 2), .ref (aRd 3), .ref (aRd 4), .ref (aRd 5), .int (zI rd_acts), .int (zI rd_total), .int (zI rd_drive), .int (zI rd_runs)])), ((aLw 0), .inr (4, [.ref (aLw 1), .ref (aLw 2)])), ((aLw 1), .inl (ca 0, 11, .inl (zA lw_numbers))), ((aWh 0), .inr (9, [.ref (aLw 0), .ref (aRd 0), .int (zI wh_base), .int (zI wh_parted)]))]) (st' := [.int (zI r_12)]) (kX9_frees l D ca aLw aWh aRd lw_numbers wh_base wh_parted v1 r_12 hc_12) wml_RX9_39 wim_X9_frees wse_X9_frees win_RX9 wco_X9_frees (nA := 1) rfl (by decide +kernel)  ⟨(Nat.le_of_ble_eq_true rfl), (Nat.le_of_ble_eq_true rfl)⟩ (Nat.le_refl _) (Nat.le_refl _) rfl (Nat.le_of_ble_eq_true rfl) dX9_mostBehindRest_12 3 9 rfl rfl rfl [0, 1, 3] [2] rfl rfl rfl (by decide) (by decide) (by decide) rfl rfl (fun _ => rfl) rfl (fun _ => ?_)
  refine g_if_eq (pc := 15) C (tgt := 30) dX9_mostBehindRest_15 (by decide) hf (fun hf => ?_) (fun hf => ?_)
  · refine g_iload_n (pc := 30) C 0 dX9_mostBehindRest_30 rfl rfl ?_
    refine g_aload_n (pc := 31) C 1 dX9_mostBehindRest_31 rfl rfl ?_
    refine g_get (pc := 32) C zf_X9_23 3 rfl rfl dX9_mostBehindRest_32 ?_
    refine g_get (pc := 35) C zf_X9_60 0 rfl rfl dX9_mostBehindRest_35 ?_
    refine g_aload_n (pc := 38) C 1 dX9_mostBehindRest_38 rfl rfl ?_
    refine g_get (pc := 39) C zf_X9_9 3 rfl rfl dX9_mostBehindRest_39 ?_
    refine g_isub (pc := 42) C dX9_mostBehindRest_42 ?_
    refine g_isub (pc := 43) C dX9_mostBehindRest_43 ?_
    refine g_istore (pc := 44) C (lv' := [(4, .int (zI ((lw_numbers 0) - (rd_drive - wh_base)))), (3, .int (zI (lw_numbers 0))), (0, .ref (aWh 0)), (1, .int (zI v1)), (2, .int (zI v2))]) dX9_mostBehindRest_44 (Nat.le_of_ble_eq_true rfl) rfl ?_
    refine g_aload_n (pc := 46) C 2 dX9_mostBehindRest_46 rfl rfl ?_
    refine g_get (pc := 47) C zf_X9_15 3 rfl rfl dX9_mostBehindRest_47 ?_
    refine g_if_ne (pc := 50) C (tgt := 66) dX9_mostBehindRest_50 (by decide) hf (fun hf => ?_) (fun hf => ?_)
    · refine g_sub [1, 2, 0, 3] [2, 4, 0] (by decide) rfl rfl rfl ?_
      exact H66 _ hf
    · refine g_iload_n (pc := 53) C 3 dX9_mostBehindRest_53 rfl rfl ?_
      refine g_aload_n (pc := 54) C 2 dX9_mostBehindRest_54 rfl rfl ?_
      refine g_get (pc := 55) C zf_X9_19 3 rfl rfl dX9_mostBehindRest_55 ?_
      refine g_get (pc := 58) C zf_X9_27 1 rfl rfl dX9_mostBehindRest_58 ?_
      refine g_iconst (pc := 61) C dX9_mostBehindRest_61 ?_
      refine g_ialdK (pc := 62) C 2 2 rfl rfl (Nat.le_of_ble_eq_true rfl) (Nat.le_of_ble_eq_true rfl) dX9_mostBehindRest_62 ?_
      refine g_icmp_lt (pc := 63) C (tgt := 95) dX9_mostBehindRest_63 (by decide) hf (fun hf => ?_) (fun hf => ?_)
      · refine g_aload_n (pc := 95) C 2 dX9_mostBehindRest_95 rfl rfl ?_
        refine g_iload (pc := 96) C 0 dX9_mostBehindRest_96 rfl ?_
        refine g_aload_n (pc := 98) C 2 dX9_mostBehindRest_98 rfl rfl ?_
        refine g_iload (pc := 99) C 0 dX9_mostBehindRest_99 rfl ?_
        obtain ⟨r_101, hc_101, hf⟩ := Option.bind_eq_some_iff.mp hf
        refine g_callV (pc := 101) C hl0 (wr := [((aRd 0), .inr (6, [.ref (aRd 1), .ref (aRd 2), .ref (aRd 3), .ref (aRd 4), .ref (aRd 5), .int (zI rd_acts), .int (zI rd_total), .int (zI rd_drive), .int (zI rd_runs)]))]) (k' := 0) (n' := 0) (ws' := fun _ => [((aRd 0), .inr (6, [.ref (aRd 1), .ref (aRd 2), .ref (aRd 3), .ref (aRd 4), .ref (aRd 5), .int (zI rd_acts), .int (zI rd_total), .int (zI rd_drive), .int (zI rd_runs)])), ((aLw 0), .inr (4, [.ref (aLw 1), .ref (aLw 2)])), ((aLw 1), .inl (ca 0, 11, .inl (zA lw_numbers))), ((aWh 0), .inr (9, [.ref (aLw 0), .ref (aRd 0), .int (zI wh_base), .int (zI wh_parted)]))]) (st' := [.int (zI r_101), .int (zI ((lw_numbers 0) - (rd_drive - wh_base))), .ref (aWh 0)]) (kX9_breakFrom l D ca aLw aWh aRd lw_numbers wh_base wh_parted ((lw_numbers 0) - (rd_drive - wh_base)) r_101 hc_101) wml_RX9_89 wim_X9_breakFrom wse_X9_breakFrom win_RX9 wco_X9_breakFrom (nA := 1) rfl (by decide +kernel)  ⟨(Nat.le_of_ble_eq_true rfl), (Nat.le_of_ble_eq_true rfl)⟩ (Nat.le_refl _) (Nat.le_refl _) rfl (Nat.le_of_ble_eq_true rfl) dX9_mostBehindRest_101 3 9 rfl rfl rfl [1, 2, 3] [0] rfl rfl rfl (by decide) (by decide) (by decide) rfl rfl (fun _ => rfl) rfl (fun _ => ?_)
        refine g_iload_n (pc := 104) C 4 dX9_mostBehindRest_104 rfl rfl ?_
        obtain ⟨r_105, hc_105, hf⟩ := Option.bind_eq_some_iff.mp hf
        refine g_callV (pc := 105) C hl0 (wr := [((aRd 0), .inr (6, [.ref (aRd 1), .ref (aRd 2), .ref (aRd 3), .ref (aRd 4), .ref (aRd 5), .int (zI rd_acts), .int (zI rd_total), .int (zI rd_drive), .int (zI rd_runs)]))]) (k' := 0) (n' := 0) (ws' := fun _ => [((aRd 0), .inr (6, [.ref (aRd 1), .ref (aRd 2), .ref (aRd 3), .ref (aRd 4), .ref (aRd 5), .int (zI rd_acts), .int (zI rd_total), .int (zI rd_drive), .int (zI rd_runs)])), ((aLw 0), .inr (4, [.ref (aLw 1), .ref (aLw 2)])), ((aLw 1), .inl (ca 0, 11, .inl (zA lw_numbers))), ((aWh 0), .inr (9, [.ref (aLw 0), .ref (aRd 0), .int (zI wh_base), .int (zI wh_parted)]))]) (st' := [.int (zI r_105)]) (kX9_mostInSpells l D ca aLw aWh aRd lw_numbers wh_base wh_parted ((lw_numbers 0) - (rd_drive - wh_base)) r_101 v2 r_105 hc_105) wml_RX9_92 wim_X9_mostInSpells wse_X9_mostInSpells win_RX9 wco_X9_mostInSpells (nA := 3) rfl (by decide +kernel)  ⟨(Nat.le_of_ble_eq_true rfl), (Nat.le_of_ble_eq_true rfl)⟩ (Nat.le_refl _) (Nat.le_refl _) rfl (Nat.le_of_ble_eq_true rfl) dX9_mostBehindRest_105 3 9 rfl rfl rfl [1, 2, 3] [0] rfl rfl rfl (by decide) (by decide) (by decide) rfl rfl (fun _ => rfl) rfl (fun _ => ?_)
        exact g_iret (pc := 108) C hf E rfl (fun _ => 0) [1, 2, 0, 3] (by decide) rfl rfl (Nat.le_refl _) (Nat.le_refl _) dX9_mostBehindRest_108
      · refine g_sub [1, 2, 0, 3] [2, 4, 0] (by decide) rfl rfl rfl ?_
        exact H66 _ hf
  · refine g_aload_n (pc := 18) C 1 dX9_mostBehindRest_18 rfl rfl ?_
    refine g_iload_n (pc := 19) C 0 dX9_mostBehindRest_19 rfl rfl ?_
    refine g_aload_n (pc := 20) C 1 dX9_mostBehindRest_20 rfl rfl ?_
    refine g_iload_n (pc := 21) C 0 dX9_mostBehindRest_21 rfl rfl ?_
    obtain ⟨r_22, hc_22, hf⟩ := Option.bind_eq_some_iff.mp hf
    refine g_callV (pc := 22) C hl0 (wr := [((aRd 0), .inr (6, [.ref (aRd 1), .ref (aRd 2), .ref (aRd 3), .ref (aRd 4), .ref (aRd 5), .int (zI rd_acts), .int (zI rd_total), .int (zI rd_drive), .int (zI rd_runs)]))]) (k' := 0) (n' := 0) (ws' := fun _ => [((aRd 0), .inr (6, [.ref (aRd 1), .ref (aRd 2), .ref (aRd 3), .ref (aRd 4), .ref (aRd 5), .int (zI rd_acts), .int (zI rd_total), .int (zI rd_drive), .int (zI rd_runs)])), ((aLw 0), .inr (4, [.ref (aLw 1), .ref (aLw 2)])), ((aLw 1), .inl (ca 0, 11, .inl (zA lw_numbers))), ((aWh 0), .inr (9, [.ref (aLw 0), .ref (aRd 0), .int (zI wh_base), .int (zI wh_parted)]))]) (st' := [.int (zI r_22), .int (zI (lw_numbers 0)), .ref (aWh 0)]) (kX9_breakFrom l D ca aLw aWh aRd lw_numbers wh_base wh_parted (lw_numbers 0) r_22 hc_22) wml_RX9_89 wim_X9_breakFrom wse_X9_breakFrom win_RX9 wco_X9_breakFrom (nA := 1) rfl (by decide +kernel)  ⟨(Nat.le_of_ble_eq_true rfl), (Nat.le_of_ble_eq_true rfl)⟩ (Nat.le_refl _) (Nat.le_refl _) rfl (Nat.le_of_ble_eq_true rfl) dX9_mostBehindRest_22 3 9 rfl rfl rfl [1, 2, 3] [0] rfl rfl rfl (by decide) (by decide) (by decide) rfl rfl (fun _ => rfl) rfl (fun _ => ?_)
    refine g_iload_n (pc := 25) C 3 dX9_mostBehindRest_25 rfl rfl ?_
    obtain ⟨r_26, hc_26, hf⟩ := Option.bind_eq_some_iff.mp hf
    refine g_callV (pc := 26) C hl0 (wr := [((aRd 0), .inr (6, [.ref (aRd 1), .ref (aRd 2), .ref (aRd 3), .ref (aRd 4), .ref (aRd 5), .int (zI rd_acts), .int (zI rd_total), .int (zI rd_drive), .int (zI rd_runs)]))]) (k' := 0) (n' := 0) (ws' := fun _ => [((aRd 0), .inr (6, [.ref (aRd 1), .ref (aRd 2), .ref (aRd 3), .ref (aRd 4), .ref (aRd 5), .int (zI rd_acts), .int (zI rd_total), .int (zI rd_drive), .int (zI rd_runs)])), ((aLw 0), .inr (4, [.ref (aLw 1), .ref (aLw 2)])), ((aLw 1), .inl (ca 0, 11, .inl (zA lw_numbers))), ((aWh 0), .inr (9, [.ref (aLw 0), .ref (aRd 0), .int (zI wh_base), .int (zI wh_parted)]))]) (st' := [.int (zI r_26)]) (kX9_mostInSpells l D ca aLw aWh aRd lw_numbers wh_base wh_parted (lw_numbers 0) r_22 v2 r_26 hc_26) wml_RX9_92 wim_X9_mostInSpells wse_X9_mostInSpells win_RX9 wco_X9_mostInSpells (nA := 3) rfl (by decide +kernel)  ⟨(Nat.le_of_ble_eq_true rfl), (Nat.le_of_ble_eq_true rfl)⟩ (Nat.le_refl _) (Nat.le_refl _) rfl (Nat.le_of_ble_eq_true rfl) dX9_mostBehindRest_26 3 9 rfl rfl rfl [1, 2, 3] [0] rfl rfl rfl (by decide) (by decide) (by decide) rfl rfl (fun _ => rfl) rfl (fun _ => ?_)
    exact g_iret (pc := 29) C hf E rfl (fun _ => 0) [1, 2, 0, 3] (by decide) rfl rfl (Nat.le_refl _) (Nat.le_refl _) dX9_mostBehindRest_29
def oX9_mostWithRestTo (ca : Nat → ClassId) (aLw : Nat → Nat) (aRd : Nat → Nat) (aWh : Nat → Nat) (lw_numbers : Nat → Int) (rd_acts : Int) (rd_total : Int) (rd_drive : Int) (rd_runs : Int) (wh_base : Int) (wh_parted : Int) (Ro : Int) : (Nat → Nat) → va_W := fun _ => [((aLw 0), .inr (4, [.ref (aLw 1), .ref (aLw 2)])), ((aLw 1), .inl (ca 0, 11, .inl (zA lw_numbers))), ((aRd 0), .inr (6, [.ref (aRd 1), .ref (aRd 2), .ref (aRd 3), .ref (aRd 4), .ref (aRd 5), .int (zI rd_acts), .int (zI rd_total), .int (zI rd_drive), .int (zI rd_runs)])), ((aWh 0), .inr (9, [.ref (aLw 0), .ref (aRd 0), .int (zI wh_base), .int (zI wh_parted)]))]
def oiX9_mostWithRestTo (Ro : Int) : Option Value := (some (.int (zI Ro)))
set_option maxRecDepth 100000 in
theorem kX9_mostWithRestTo (l : Launch) (D : va_G) (ca : Nat → ClassId) (aLw : Nat → Nat) (aRd : Nat → Nat) (aWh : Nat → Nat) (lw_numbers : Nat → Int) (rd_acts : Int) (rd_total : Int) (rd_drive : Int) (rd_runs : Int) (wh_base : Int) (wh_parted : Int) (v1 : Int) (v2 : Int) (v3 : Int) (Ro : Int)
    (hf : fX9_mostWithRestTo v1 v2 v3 lw_numbers rd_drive wh_base wh_parted = some Ro) : Zc l D ca yX9_mostWithRestTo cX9_mostWithRestTo 5 (some .int) { frames := 4, cells := 0, slots := 0, locals := 85 } [.ref (aWh 0), .int (zI v1), .int (zI v2), .int (zI v3)] [((aLw 0), .inr (4, [.ref (aLw 1), .ref (aLw 2)])), ((aLw 1), .inl (ca 0, 11, .inl (zA lw_numbers))), ((aRd 0), .inr (6, [.ref (aRd 1), .ref (aRd 2), .ref (aRd 3), .ref (aRd 4), .ref (aRd 5), .int (zI rd_acts), .int (zI rd_total), .int (zI rd_drive), .int (zI rd_runs)])), ((aWh 0), .inr (9, [.ref (aLw 0), .ref (aRd 0), .int (zI wh_base), .int (zI wh_parted)]))] (oiX9_mostWithRestTo Ro) (oX9_mostWithRestTo ca aLw aRd aWh lw_numbers rd_acts rd_total rd_drive rd_runs wh_base wh_parted Ro) := by
  refine ctr_of (lv := [(0, .ref (aWh 0)), (1, .int (zI v1)), (2, .int (zI v2)), (3, .int (zI v3))]) (by decide +kernel) (Nat.le_of_ble_eq_true rfl) rfl (fun Γ hl0 C E hnm => ?_)
  unfold fX9_mostWithRestTo at hf
  refine g_iconst (pc := 0) C dX9_mostWithRestTo_0 ?_
  refine g_iload_n (pc := 1) C 1 dX9_mostWithRestTo_1 rfl rfl ?_
  refine g_iload_n (pc := 2) C 2 dX9_mostWithRestTo_2 rfl rfl ?_
  refine g_isub (pc := 3) C dX9_mostWithRestTo_3 ?_
  refine g_mmax (pc := 4) C wml_RX9_72 (Nat.le_of_ble_eq_true rfl) (Nat.le_of_ble_eq_true rfl) (Nat.zero_le _) (Nat.zero_le _) dX9_mostWithRestTo_4 hf (fun hf => ?_)
  refine g_istore (pc := 7) C (lv' := [(4, .int (zI (max 0 (v1 - v2)))), (0, .ref (aWh 0)), (1, .int (zI v1)), (2, .int (zI v2)), (3, .int (zI v3))]) dX9_mostWithRestTo_7 (Nat.le_of_ble_eq_true rfl) rfl ?_
  refine g_iload (pc := 9) C 0 dX9_mostWithRestTo_9 rfl ?_
  refine g_iload_n (pc := 11) C 4 dX9_mostWithRestTo_11 rfl rfl ?_
  refine g_icmp_le (pc := 12) C (tgt := 19) dX9_mostWithRestTo_12 (by decide) hf (fun hf => ?_) (fun hf => ?_)
  · refine g_aload_n (pc := 19) C 1 dX9_mostWithRestTo_19 rfl rfl ?_
    refine g_iload_n (pc := 20) C 3 dX9_mostWithRestTo_20 rfl rfl ?_
    refine g_iload (pc := 21) C 0 dX9_mostWithRestTo_21 rfl ?_
    refine g_iadd (pc := 23) C dX9_mostWithRestTo_23 ?_
    refine g_iload_n (pc := 24) C 4 dX9_mostWithRestTo_24 rfl rfl ?_
    refine g_iload (pc := 25) C 0 dX9_mostWithRestTo_25 rfl ?_
    refine g_isub (pc := 27) C dX9_mostWithRestTo_27 ?_
    obtain ⟨r_28, hc_28, hf⟩ := Option.bind_eq_some_iff.mp hf
    refine g_callV (pc := 28) C hl0 (wr := []) (k' := 0) (n' := 0) (ws' := fun _ => [((aLw 0), .inr (4, [.ref (aLw 1), .ref (aLw 2)])), ((aLw 1), .inl (ca 0, 11, .inl (zA lw_numbers))), ((aRd 0), .inr (6, [.ref (aRd 1), .ref (aRd 2), .ref (aRd 3), .ref (aRd 4), .ref (aRd 5), .int (zI rd_acts), .int (zI rd_total), .int (zI rd_drive), .int (zI rd_runs)])), ((aWh 0), .inr (9, [.ref (aLw 0), .ref (aRd 0), .int (zI wh_base), .int (zI wh_parted)]))]) (st' := [.int (zI r_28)]) (kX9_mostBehindRest l D ca aLw aRd aWh lw_numbers rd_acts rd_total rd_drive rd_runs wh_base wh_parted (v2 + (max 0 (v1 - v2))) (v3 - (max 0 (v1 - v2))) r_28 hc_28) wml_RX9_82 wim_X9_mostBehindRest wse_X9_mostBehindRest win_RX9 wco_X9_mostBehindRest (nA := 2) rfl (by decide +kernel)  ⟨(Nat.le_of_ble_eq_true rfl), (Nat.le_of_ble_eq_true rfl)⟩ (Nat.le_refl _) (Nat.le_refl _) rfl (Nat.le_of_ble_eq_true rfl) dX9_mostWithRestTo_28 3 9 rfl rfl rfl [0, 1, 2, 3] [] rfl rfl rfl (by decide) (by decide) (by decide) rfl rfl (fun _ => rfl) rfl (fun _ => ?_)
    exact g_iret (pc := 31) C hf E rfl (fun _ => 0) [0, 1, 2, 3] (by decide) rfl rfl (Nat.le_refl _) (Nat.le_refl _) dX9_mostWithRestTo_31
  · refine g_iconst (pc := 15) C dX9_mostWithRestTo_15 ?_
    refine g_goto (pc := 16) C (tgt := 31) dX9_mostWithRestTo_16 (by decide) ?_
    exact g_iret (pc := 31) C hf E rfl (fun _ => 0) [0, 1, 2, 3] (by decide) rfl rfl (Nat.le_refl _) (Nat.le_refl _) dX9_mostWithRestTo_31
def oX9_mostAhead (ca : Nat → ClassId) (aLw : Nat → Nat) (aRd : Nat → Nat) (aWh : Nat → Nat) (lw_numbers : Nat → Int) (rd_runFrom : Nat → Int) (rd_runTo : Nat → Int) (rd_runDrive : Nat → Int) (rd_acts : Int) (rd_total : Int) (rd_drive : Int) (rd_runs : Int) (Ro : Int × Int × Int) : (Nat → Nat) → va_W := fun _ => [((aLw 0), .inr (4, [.ref (aLw 1), .ref (aLw 2)])), ((aLw 1), .inl (ca 0, 11, .inl (zA lw_numbers))), ((aRd 0), .inr (6, [.ref (aRd 1), .ref (aRd 2), .ref (aRd 3), .ref (aRd 4), .ref (aRd 5), .int (zI rd_acts), .int (zI rd_total), .int (zI rd_drive), .int (zI rd_runs)])), ((aRd 3), .inl (ca 0, 60, .inl (zA rd_runFrom))), ((aRd 4), .inl (ca 0, 60, .inl (zA rd_runTo))), ((aRd 5), .inl (ca 0, 60, .inl (zA rd_runDrive))), ((aWh 0), .inr (9, [.ref (aLw 0), .ref (aRd 0), .int (zI (Ro.2.1)), .int (zI (Ro.2.2))]))]
def oiX9_mostAhead (Ro : Int × Int × Int) : Option Value := (some (.int (zI Ro.1)))
set_option maxRecDepth 100000 in
theorem kX9_mostAhead (l : Launch) (D : va_G) (ca : Nat → ClassId) (aLw : Nat → Nat) (aRd : Nat → Nat) (aWh : Nat → Nat) (lw_numbers : Nat → Int) (rd_runFrom : Nat → Int) (rd_runTo : Nat → Int) (rd_runDrive : Nat → Int) (rd_acts : Int) (rd_total : Int) (rd_drive : Int) (rd_runs : Int) (wh_base : Int) (wh_parted : Int) (v1 : Int) (Ro : Int × Int × Int)
    (hf : fX9_mostAhead v1 lw_numbers rd_runFrom rd_runTo rd_runDrive rd_total rd_drive rd_runs wh_base wh_parted = some Ro) : Zc l D ca yX9_mostAhead cX9_mostAhead 4 (some .int) { frames := 5, cells := 0, slots := 0, locals := 109 } [.ref (aWh 0), .int (zI v1)] [((aLw 0), .inr (4, [.ref (aLw 1), .ref (aLw 2)])), ((aLw 1), .inl (ca 0, 11, .inl (zA lw_numbers))), ((aRd 0), .inr (6, [.ref (aRd 1), .ref (aRd 2), .ref (aRd 3), .ref (aRd 4), .ref (aRd 5), .int (zI rd_acts), .int (zI rd_total), .int (zI rd_drive), .int (zI rd_runs)])), ((aRd 3), .inl (ca 0, 60, .inl (zA rd_runFrom))), ((aRd 4), .inl (ca 0, 60, .inl (zA rd_runTo))), ((aRd 5), .inl (ca 0, 60, .inl (zA rd_runDrive))), ((aWh 0), .inr (9, [.ref (aLw 0), .ref (aRd 0), .int (zI wh_base), .int (zI wh_parted)]))] (oiX9_mostAhead Ro) (oX9_mostAhead ca aLw aRd aWh lw_numbers rd_runFrom rd_runTo rd_runDrive rd_acts rd_total rd_drive rd_runs Ro) := by
  refine ctr_of (lv := [(0, .ref (aWh 0)), (1, .int (zI v1))]) (by decide +kernel) (Nat.le_of_ble_eq_true rfl) rfl (fun Γ hl0 C E hnm => ?_)
  have H56 : ∀ (v2 : Int) (wh_base : Int) (wh_parted : Int), fX9_mostAhead_56 v1 v2 lw_numbers rd_drive wh_base wh_parted = some Ro → Zd D Γ 0 0 [((aLw 0), .inr (4, [.ref (aLw 1), .ref (aLw 2)])), ((aLw 1), .inl (ca 0, 11, .inl (zA lw_numbers))), ((aRd 0), .inr (6, [.ref (aRd 1), .ref (aRd 2), .ref (aRd 3), .ref (aRd 4), .ref (aRd 5), .int (zI rd_acts), .int (zI rd_total), .int (zI rd_drive), .int (zI rd_runs)])), ((aRd 3), .inl (ca 0, 60, .inl (zA rd_runFrom))), ((aRd 4), .inl (ca 0, 60, .inl (zA rd_runTo))), ((aRd 5), .inl (ca 0, 60, .inl (zA rd_runDrive))), ((aWh 0), .inr (9, [.ref (aLw 0), .ref (aRd 0), .int (zI wh_base), .int (zI wh_parted)]))] 56 [(0, .ref (aWh 0)), (1, .int (zI v1)), (2, .int (zI v2))] [] := by
    intro v2 wh_base wh_parted hf
    unfold fX9_mostAhead_56 at hf
    refine g_aload_n (pc := 56) C 0 dX9_mostAhead_56 rfl rfl ?_
    refine g_iload_n (pc := 57) C 2 dX9_mostAhead_57 rfl rfl ?_
    refine g_iload_n (pc := 58) C 1 dX9_mostAhead_58 rfl rfl ?_
    obtain ⟨r_59, hc_59, hf⟩ := Option.bind_eq_some_iff.mp hf
    refine g_callV (pc := 59) C hl0 (wr := [((aRd 3), .inl (ca 0, 60, .inl (zA rd_runFrom))), ((aRd 4), .inl (ca 0, 60, .inl (zA rd_runTo))), ((aRd 5), .inl (ca 0, 60, .inl (zA rd_runDrive)))]) (k' := 0) (n' := 0) (ws' := fun _ => [((aRd 3), .inl (ca 0, 60, .inl (zA rd_runFrom))), ((aRd 4), .inl (ca 0, 60, .inl (zA rd_runTo))), ((aRd 5), .inl (ca 0, 60, .inl (zA rd_runDrive))), ((aLw 0), .inr (4, [.ref (aLw 1), .ref (aLw 2)])), ((aLw 1), .inl (ca 0, 11, .inl (zA lw_numbers))), ((aRd 0), .inr (6, [.ref (aRd 1), .ref (aRd 2), .ref (aRd 3), .ref (aRd 4), .ref (aRd 5), .int (zI rd_acts), .int (zI rd_total), .int (zI rd_drive), .int (zI rd_runs)])), ((aWh 0), .inr (9, [.ref (aLw 0), .ref (aRd 0), .int (zI wh_base), .int (zI wh_parted)]))]) (st' := [.int (zI r_59)]) (kX9_mostBehindRest l D ca aLw aRd aWh lw_numbers rd_acts rd_total rd_drive rd_runs wh_base wh_parted v2 v1 r_59 hc_59) wml_RX9_82 wim_X9_mostBehindRest wse_X9_mostBehindRest win_RX9 wco_X9_mostBehindRest (nA := 2) rfl (by decide +kernel)  ⟨(Nat.le_of_ble_eq_true rfl), (Nat.le_of_ble_eq_true rfl)⟩ (Nat.le_refl _) (Nat.le_refl _) rfl (Nat.le_of_ble_eq_true rfl) dX9_mostAhead_59 6 9 rfl rfl rfl [0, 1, 2, 6] [3, 4, 5] rfl rfl rfl (by decide) (by decide) (by decide) rfl rfl (fun _ => rfl) rfl (fun _ => ?_)
    refine g_istore_n (pc := 62) C (lv' := [(3, .int (zI r_59)), (0, .ref (aWh 0)), (1, .int (zI v1)), (2, .int (zI v2))]) dX9_mostAhead_62 rfl (Nat.le_of_ble_eq_true rfl) rfl ?_
    refine g_iload_n (pc := 63) C 0 dX9_mostAhead_63 rfl rfl ?_
    refine g_aload_n (pc := 64) C 1 dX9_mostAhead_64 rfl rfl ?_
    refine g_aload_n (pc := 65) C 1 dX9_mostAhead_65 rfl rfl ?_
    refine g_get (pc := 66) C zf_X9_19 6 rfl rfl dX9_mostAhead_66 ?_
    refine g_get (pc := 69) C zf_X9_27 3 rfl rfl dX9_mostAhead_69 ?_
    refine g_iconst (pc := 72) C dX9_mostAhead_72 ?_
    refine g_ialdK (pc := 73) C 2 4 rfl rfl (Nat.le_of_ble_eq_true rfl) (Nat.le_of_ble_eq_true rfl) dX9_mostAhead_73 ?_
    refine g_iload_n (pc := 74) C 3 dX9_mostAhead_74 rfl rfl ?_
    refine g_iload_n (pc := 75) C 2 dX9_mostAhead_75 rfl rfl ?_
    obtain ⟨r_76, hc_76, hf⟩ := Option.bind_eq_some_iff.mp hf
    refine g_callV (pc := 76) C hl0 (wr := [((aRd 3), .inl (ca 0, 60, .inl (zA rd_runFrom))), ((aRd 4), .inl (ca 0, 60, .inl (zA rd_runTo))), ((aRd 5), .inl (ca 0, 60, .inl (zA rd_runDrive)))]) (k' := 0) (n' := 0) (ws' := fun _ => [((aRd 3), .inl (ca 0, 60, .inl (zA rd_runFrom))), ((aRd 4), .inl (ca 0, 60, .inl (zA rd_runTo))), ((aRd 5), .inl (ca 0, 60, .inl (zA rd_runDrive))), ((aLw 0), .inr (4, [.ref (aLw 1), .ref (aLw 2)])), ((aLw 1), .inl (ca 0, 11, .inl (zA lw_numbers))), ((aRd 0), .inr (6, [.ref (aRd 1), .ref (aRd 2), .ref (aRd 3), .ref (aRd 4), .ref (aRd 5), .int (zI rd_acts), .int (zI rd_total), .int (zI rd_drive), .int (zI rd_runs)])), ((aWh 0), .inr (9, [.ref (aLw 0), .ref (aRd 0), .int (zI wh_base), .int (zI wh_parted)]))]) (st' := [.int (zI r_76), .int (zI r_59)]) (kX9_mostWithRestTo l D ca aLw aRd aWh lw_numbers rd_acts rd_total rd_drive rd_runs wh_base wh_parted (lw_numbers 2) v2 v1 r_76 hc_76) wml_RX9_85 wim_X9_mostWithRestTo wse_X9_mostWithRestTo win_RX9 wco_X9_mostWithRestTo (nA := 3) rfl (by decide +kernel)  ⟨(Nat.le_of_ble_eq_true rfl), (Nat.le_of_ble_eq_true rfl)⟩ (Nat.le_refl _) (Nat.le_refl _) rfl (Nat.le_of_ble_eq_true rfl) dX9_mostAhead_76 6 9 rfl rfl rfl [3, 4, 5, 6] [0, 1, 2] rfl rfl rfl (by decide) (by decide) (by decide) rfl rfl (fun _ => rfl) rfl (fun _ => ?_)
    refine g_mmax (pc := 79) C wml_RX9_72 (Nat.le_of_ble_eq_true rfl) (Nat.le_of_ble_eq_true rfl) (Nat.zero_le _) (Nat.zero_le _) dX9_mostAhead_79 hf (fun hf => ?_)
    refine g_istore_n (pc := 82) C (lv' := [(3, .int (zI (max r_59 r_76))), (0, .ref (aWh 0)), (1, .int (zI v1)), (2, .int (zI v2))]) dX9_mostAhead_82 rfl (Nat.le_of_ble_eq_true rfl) rfl ?_
    refine g_iload_n (pc := 83) C 0 dX9_mostAhead_83 rfl rfl ?_
    refine g_aload_n (pc := 84) C 1 dX9_mostAhead_84 rfl rfl ?_
    refine g_aload_n (pc := 85) C 1 dX9_mostAhead_85 rfl rfl ?_
    refine g_get (pc := 86) C zf_X9_19 6 rfl rfl dX9_mostAhead_86 ?_
    refine g_get (pc := 89) C zf_X9_27 3 rfl rfl dX9_mostAhead_89 ?_
    refine g_iconst (pc := 92) C dX9_mostAhead_92 ?_
    refine g_ialdK (pc := 93) C 3 4 rfl rfl (Nat.le_of_ble_eq_true rfl) (Nat.le_of_ble_eq_true rfl) dX9_mostAhead_93 ?_
    refine g_iload_n (pc := 94) C 3 dX9_mostAhead_94 rfl rfl ?_
    refine g_iload_n (pc := 95) C 2 dX9_mostAhead_95 rfl rfl ?_
    obtain ⟨r_96, hc_96, hf⟩ := Option.bind_eq_some_iff.mp hf
    refine g_callV (pc := 96) C hl0 (wr := [((aRd 3), .inl (ca 0, 60, .inl (zA rd_runFrom))), ((aRd 4), .inl (ca 0, 60, .inl (zA rd_runTo))), ((aRd 5), .inl (ca 0, 60, .inl (zA rd_runDrive)))]) (k' := 0) (n' := 0) (ws' := fun _ => [((aRd 3), .inl (ca 0, 60, .inl (zA rd_runFrom))), ((aRd 4), .inl (ca 0, 60, .inl (zA rd_runTo))), ((aRd 5), .inl (ca 0, 60, .inl (zA rd_runDrive))), ((aLw 0), .inr (4, [.ref (aLw 1), .ref (aLw 2)])), ((aLw 1), .inl (ca 0, 11, .inl (zA lw_numbers))), ((aRd 0), .inr (6, [.ref (aRd 1), .ref (aRd 2), .ref (aRd 3), .ref (aRd 4), .ref (aRd 5), .int (zI rd_acts), .int (zI rd_total), .int (zI rd_drive), .int (zI rd_runs)])), ((aWh 0), .inr (9, [.ref (aLw 0), .ref (aRd 0), .int (zI wh_base), .int (zI wh_parted)]))]) (st' := [.int (zI r_96), .int (zI (max r_59 r_76))]) (kX9_mostWithRestTo l D ca aLw aRd aWh lw_numbers rd_acts rd_total rd_drive rd_runs wh_base wh_parted (lw_numbers 3) v2 v1 r_96 hc_96) wml_RX9_85 wim_X9_mostWithRestTo wse_X9_mostWithRestTo win_RX9 wco_X9_mostWithRestTo (nA := 3) rfl (by decide +kernel)  ⟨(Nat.le_of_ble_eq_true rfl), (Nat.le_of_ble_eq_true rfl)⟩ (Nat.le_refl _) (Nat.le_refl _) rfl (Nat.le_of_ble_eq_true rfl) dX9_mostAhead_96 6 9 rfl rfl rfl [3, 4, 5, 6] [0, 1, 2] rfl rfl rfl (by decide) (by decide) (by decide) rfl rfl (fun _ => rfl) rfl (fun _ => ?_)
    refine g_mmax (pc := 99) C wml_RX9_72 (Nat.le_of_ble_eq_true rfl) (Nat.le_of_ble_eq_true rfl) (Nat.zero_le _) (Nat.zero_le _) dX9_mostAhead_99 hf (fun hf => ?_)
    refine g_istore_n (pc := 102) C (lv' := [(3, .int (zI (max (max r_59 r_76) r_96))), (0, .ref (aWh 0)), (1, .int (zI v1)), (2, .int (zI v2))]) dX9_mostAhead_102 rfl (Nat.le_of_ble_eq_true rfl) rfl ?_
    refine g_iload_n (pc := 103) C 0 dX9_mostAhead_103 rfl rfl ?_
    refine g_aload_n (pc := 104) C 1 dX9_mostAhead_104 rfl rfl ?_
    refine g_aload_n (pc := 105) C 1 dX9_mostAhead_105 rfl rfl ?_
    refine g_get (pc := 106) C zf_X9_19 6 rfl rfl dX9_mostAhead_106 ?_
    refine g_get (pc := 109) C zf_X9_27 3 rfl rfl dX9_mostAhead_109 ?_
    refine g_iconst (pc := 112) C dX9_mostAhead_112 ?_
    refine g_ialdK (pc := 113) C 1 4 rfl rfl (Nat.le_of_ble_eq_true rfl) (Nat.le_of_ble_eq_true rfl) dX9_mostAhead_113 ?_
    refine g_iload_n (pc := 114) C 3 dX9_mostAhead_114 rfl rfl ?_
    refine g_iload_n (pc := 115) C 2 dX9_mostAhead_115 rfl rfl ?_
    obtain ⟨r_116, hc_116, hf⟩ := Option.bind_eq_some_iff.mp hf
    refine g_callV (pc := 116) C hl0 (wr := [((aRd 3), .inl (ca 0, 60, .inl (zA rd_runFrom))), ((aRd 4), .inl (ca 0, 60, .inl (zA rd_runTo))), ((aRd 5), .inl (ca 0, 60, .inl (zA rd_runDrive)))]) (k' := 0) (n' := 0) (ws' := fun _ => [((aRd 3), .inl (ca 0, 60, .inl (zA rd_runFrom))), ((aRd 4), .inl (ca 0, 60, .inl (zA rd_runTo))), ((aRd 5), .inl (ca 0, 60, .inl (zA rd_runDrive))), ((aLw 0), .inr (4, [.ref (aLw 1), .ref (aLw 2)])), ((aLw 1), .inl (ca 0, 11, .inl (zA lw_numbers))), ((aRd 0), .inr (6, [.ref (aRd 1), .ref (aRd 2), .ref (aRd 3), .ref (aRd 4), .ref (aRd 5), .int (zI rd_acts), .int (zI rd_total), .int (zI rd_drive), .int (zI rd_runs)])), ((aWh 0), .inr (9, [.ref (aLw 0), .ref (aRd 0), .int (zI wh_base), .int (zI wh_parted)]))]) (st' := [.int (zI r_116), .int (zI (max (max r_59 r_76) r_96))]) (kX9_mostWithRestTo l D ca aLw aRd aWh lw_numbers rd_acts rd_total rd_drive rd_runs wh_base wh_parted (lw_numbers 1) v2 v1 r_116 hc_116) wml_RX9_85 wim_X9_mostWithRestTo wse_X9_mostWithRestTo win_RX9 wco_X9_mostWithRestTo (nA := 3) rfl (by decide +kernel)  ⟨(Nat.le_of_ble_eq_true rfl), (Nat.le_of_ble_eq_true rfl)⟩ (Nat.le_refl _) (Nat.le_refl _) rfl (Nat.le_of_ble_eq_true rfl) dX9_mostAhead_116 6 9 rfl rfl rfl [3, 4, 5, 6] [0, 1, 2] rfl rfl rfl (by decide) (by decide) (by decide) rfl rfl (fun _ => rfl) rfl (fun _ => ?_)
    refine g_mmax (pc := 119) C wml_RX9_72 (Nat.le_of_ble_eq_true rfl) (Nat.le_of_ble_eq_true rfl) (Nat.zero_le _) (Nat.zero_le _) dX9_mostAhead_119 hf (fun hf => ?_)
    exact g_iret (pc := 122) C hf E rfl (fun _ => 0) [3, 4, 5, 0, 1, 2, 6] (by decide) rfl rfl (Nat.le_refl _) (Nat.le_refl _) dX9_mostAhead_122
  unfold fX9_mostAhead at hf
  refine g_iconst (pc := 0) C dX9_mostAhead_0 ?_
  refine g_istore_n (pc := 1) C (lv' := [(2, .int (zI 0)), (0, .ref (aWh 0)), (1, .int (zI v1))]) dX9_mostAhead_1 rfl (Nat.le_of_ble_eq_true rfl) rfl ?_
  refine g_aload_n (pc := 2) C 1 dX9_mostAhead_2 rfl rfl ?_
  refine g_get (pc := 3) C zf_X9_23 6 rfl rfl dX9_mostAhead_3 ?_
  obtain ⟨r_6, hc_6, hf⟩ := Option.bind_eq_some_iff.mp hf
  refine g_callV (pc := 6) C hl0 (wr := [((aLw 0), .inr (4, [.ref (aLw 1), .ref (aLw 2)])), ((aLw 1), .inl (ca 0, 11, .inl (zA lw_numbers))), ((aRd 3), .inl (ca 0, 60, .inl (zA rd_runFrom))), ((aRd 5), .inl (ca 0, 60, .inl (zA rd_runDrive))), ((aWh 0), .inr (9, [.ref (aLw 0), .ref (aRd 0), .int (zI wh_base), .int (zI wh_parted)]))]) (k' := 0) (n' := 0) (ws' := fun _ => [((aLw 0), .inr (4, [.ref (aLw 1), .ref (aLw 2)])), ((aLw 1), .inl (ca 0, 11, .inl (zA lw_numbers))), ((aRd 3), .inl (ca 0, 60, .inl (zA rd_runFrom))), ((aRd 5), .inl (ca 0, 60, .inl (zA rd_runDrive))), ((aWh 0), .inr (9, [.ref (aLw 0), .ref (aRd 0), .int (zI wh_base), .int (zI wh_parted)])), ((aRd 0), .inr (6, [.ref (aRd 1), .ref (aRd 2), .ref (aRd 3), .ref (aRd 4), .ref (aRd 5), .int (zI rd_acts), .int (zI rd_total), .int (zI rd_drive), .int (zI rd_runs)])), ((aRd 4), .inl (ca 0, 60, .inl (zA rd_runTo)))]) (st' := [.int (zI r_6)]) (kX6_endsWithRun l D ca aRd rd_runTo rd_acts rd_total rd_drive rd_runs r_6 hc_6) wml_RX9_78 wim_X6_endsWithRun wse_X6_endsWithRun win_RX6 wco_X6_endsWithRun (nA := 0) rfl (by decide +kernel)  ⟨(Nat.le_of_ble_eq_true rfl), (Nat.le_of_ble_eq_true rfl)⟩ (Nat.le_refl _) (Nat.le_refl _) rfl (Nat.le_of_ble_eq_true rfl) dX9_mostAhead_6 2 6 rfl rfl rfl [2, 4] [0, 1, 3, 5, 6] rfl rfl rfl (by decide) (by decide) (by decide) rfl rfl (fun _ => rfl) rfl (fun _ => ?_)
  refine g_if_eq (pc := 9) C (tgt := 45) dX9_mostAhead_9 (by decide) hf (fun hf => ?_) (fun hf => ?_)
  · refine g_aload_n (pc := 45) C 1 dX9_mostAhead_45 rfl rfl ?_
    refine g_aload_n (pc := 46) C 1 dX9_mostAhead_46 rfl rfl ?_
    refine g_get (pc := 47) C zf_X9_23 4 rfl rfl dX9_mostAhead_47 ?_
    refine g_get (pc := 50) C zf_X9_53 5 rfl rfl dX9_mostAhead_50 ?_
    obtain ⟨⟨wh_base_53, wh_parted_53⟩, hc_53, hf⟩ := Option.bind_eq_some_iff.mp hf
    dsimp only at hf
    refine g_callV (pc := 53) C hl0 (wr := []) (k' := 0) (n' := 0) (ws' := fun _ => [((aLw 0), .inr (4, [.ref (aLw 1), .ref (aLw 2)])), ((aLw 1), .inl (ca 0, 11, .inl (zA lw_numbers))), ((aRd 0), .inr (6, [.ref (aRd 1), .ref (aRd 2), .ref (aRd 3), .ref (aRd 4), .ref (aRd 5), .int (zI rd_acts), .int (zI rd_total), .int (zI rd_drive), .int (zI rd_runs)])), ((aRd 3), .inl (ca 0, 60, .inl (zA rd_runFrom))), ((aRd 4), .inl (ca 0, 60, .inl (zA rd_runTo))), ((aRd 5), .inl (ca 0, 60, .inl (zA rd_runDrive))), ((aWh 0), .inr (9, [.ref (aLw 0), .ref (aRd 0), .int (zI wh_base_53), .int (zI wh_parted_53)]))]) (st' := []) (kX9_passRuns l D ca aLw aRd aWh lw_numbers rd_runFrom rd_runTo rd_runDrive rd_acts rd_total rd_drive rd_runs wh_base wh_parted rd_runs (wh_base_53, wh_parted_53) hc_53) wml_RX9_50 wim_X9_passRuns wse_X9_passRuns win_RX9 wco_X9_passRuns (nA := 1) rfl (by decide +kernel)  ⟨(Nat.le_of_ble_eq_true rfl), (Nat.le_of_ble_eq_true rfl)⟩ (Nat.le_refl _) (Nat.le_refl _) rfl (Nat.le_of_ble_eq_true rfl) dX9_mostAhead_53 4 9 rfl rfl rfl [0, 1, 5, 2, 6, 3, 4] [] rfl rfl rfl (by decide) (by decide) (by decide) rfl rfl (fun _ => rfl) rfl (fun _ => ?_)
    refine g_sub [0, 1, 2, 3, 4, 5, 6] [1, 2, 0] (by decide) rfl rfl rfl ?_
    exact H56 _ _ _ hf
  · refine g_aload_n (pc := 12) C 1 dX9_mostAhead_12 rfl rfl ?_
    refine g_aload_n (pc := 13) C 1 dX9_mostAhead_13 rfl rfl ?_
    refine g_get (pc := 14) C zf_X9_23 4 rfl rfl dX9_mostAhead_14 ?_
    refine g_get (pc := 17) C zf_X9_53 5 rfl rfl dX9_mostAhead_17 ?_
    refine g_iconst (pc := 20) C dX9_mostAhead_20 ?_
    refine g_isub (pc := 21) C dX9_mostAhead_21 ?_
    obtain ⟨⟨wh_base_22, wh_parted_22⟩, hc_22, hf⟩ := Option.bind_eq_some_iff.mp hf
    dsimp only at hf
    refine g_callV (pc := 22) C hl0 (wr := []) (k' := 0) (n' := 0) (ws' := fun _ => [((aLw 0), .inr (4, [.ref (aLw 1), .ref (aLw 2)])), ((aLw 1), .inl (ca 0, 11, .inl (zA lw_numbers))), ((aRd 0), .inr (6, [.ref (aRd 1), .ref (aRd 2), .ref (aRd 3), .ref (aRd 4), .ref (aRd 5), .int (zI rd_acts), .int (zI rd_total), .int (zI rd_drive), .int (zI rd_runs)])), ((aRd 3), .inl (ca 0, 60, .inl (zA rd_runFrom))), ((aRd 4), .inl (ca 0, 60, .inl (zA rd_runTo))), ((aRd 5), .inl (ca 0, 60, .inl (zA rd_runDrive))), ((aWh 0), .inr (9, [.ref (aLw 0), .ref (aRd 0), .int (zI wh_base_22), .int (zI wh_parted_22)]))]) (st' := []) (kX9_passRuns l D ca aLw aRd aWh lw_numbers rd_runFrom rd_runTo rd_runDrive rd_acts rd_total rd_drive rd_runs wh_base wh_parted (rd_runs - 1) (wh_base_22, wh_parted_22) hc_22) wml_RX9_50 wim_X9_passRuns wse_X9_passRuns win_RX9 wco_X9_passRuns (nA := 1) rfl (by decide +kernel)  ⟨(Nat.le_of_ble_eq_true rfl), (Nat.le_of_ble_eq_true rfl)⟩ (Nat.le_refl _) (Nat.le_refl _) rfl (Nat.le_of_ble_eq_true rfl) dX9_mostAhead_22 4 9 rfl rfl rfl [0, 1, 5, 2, 6, 3, 4] [] rfl rfl rfl (by decide) (by decide) (by decide) rfl rfl (fun _ => rfl) rfl (fun _ => ?_)
    refine g_aload_n (pc := 25) C 1 dX9_mostAhead_25 rfl rfl ?_
    refine g_get (pc := 26) C zf_X9_23 6 rfl rfl dX9_mostAhead_26 ?_
    refine g_aload_n (pc := 29) C 1 dX9_mostAhead_29 rfl rfl ?_
    refine g_get (pc := 30) C zf_X9_23 6 rfl rfl dX9_mostAhead_30 ?_
    refine g_get (pc := 33) C zf_X9_53 2 rfl rfl dX9_mostAhead_33 ?_
    refine g_iconst (pc := 36) C dX9_mostAhead_36 ?_
    refine g_isub (pc := 37) C dX9_mostAhead_37 ?_
    obtain ⟨r_38, hc_38, hf⟩ := Option.bind_eq_some_iff.mp hf
    refine g_callV (pc := 38) C hl0 (wr := [((aLw 0), .inr (4, [.ref (aLw 1), .ref (aLw 2)])), ((aLw 1), .inl (ca 0, 11, .inl (zA lw_numbers))), ((aRd 5), .inl (ca 0, 60, .inl (zA rd_runDrive))), ((aWh 0), .inr (9, [.ref (aLw 0), .ref (aRd 0), .int (zI wh_base_22), .int (zI wh_parted_22)]))]) (k' := 0) (n' := 0) (ws' := fun _ => [((aLw 0), .inr (4, [.ref (aLw 1), .ref (aLw 2)])), ((aLw 1), .inl (ca 0, 11, .inl (zA lw_numbers))), ((aRd 5), .inl (ca 0, 60, .inl (zA rd_runDrive))), ((aWh 0), .inr (9, [.ref (aLw 0), .ref (aRd 0), .int (zI wh_base_22), .int (zI wh_parted_22)])), ((aRd 0), .inr (6, [.ref (aRd 1), .ref (aRd 2), .ref (aRd 3), .ref (aRd 4), .ref (aRd 5), .int (zI rd_acts), .int (zI rd_total), .int (zI rd_drive), .int (zI rd_runs)])), ((aRd 3), .inl (ca 0, 60, .inl (zA rd_runFrom))), ((aRd 4), .inl (ca 0, 60, .inl (zA rd_runTo)))]) (st' := [.int (zI r_38)]) (kX6_runLength l D ca aRd rd_runFrom rd_runTo rd_acts rd_total rd_drive rd_runs (rd_runs - 1) r_38 hc_38) wml_RX9_33 wim_X6_runLength wse_X6_runLength win_RX6 wco_X6_runLength (nA := 1) rfl (by decide +kernel)  ⟨(Nat.le_of_ble_eq_true rfl), (Nat.le_of_ble_eq_true rfl)⟩ (Nat.le_refl _) (Nat.le_refl _) rfl (Nat.le_of_ble_eq_true rfl) dX9_mostAhead_38 2 6 rfl rfl rfl [2, 3, 4] [0, 1, 5, 6] rfl rfl rfl (by decide) (by decide) (by decide) rfl rfl (fun _ => rfl) rfl (fun _ => ?_)
    refine g_istore_n (pc := 41) C (lv' := [(2, .int (zI r_38)), (0, .ref (aWh 0)), (1, .int (zI v1))]) dX9_mostAhead_41 rfl (Nat.le_of_ble_eq_true rfl) rfl ?_
    refine g_goto (pc := 42) C (tgt := 56) dX9_mostAhead_42 (by decide) ?_
    refine g_sub [0, 1, 4, 5, 6, 2, 3] [1, 2, 0] (by decide) rfl rfl rfl ?_
    exact H56 _ _ _ hf
def oX9_tellSpell (ca : Nat → ClassId) (aBr : Nat → Nat) (aLw : Nat → Nat) (aRd : Nat → Nat) (aWh : Nat → Nat) (lw_numbers : Nat → Int) (rd_kind : Nat → Int) (rd_begin : Nat → Int) (rd_acts : Int) (rd_total : Int) (rd_drive : Int) (rd_runs : Int) (wh_base : Int) (wh_parted : Int) (Ro : (Nat → Int) × (Nat → Int) × (Nat → Int) × Int) : (Nat → Nat) → va_W := fun _ => [((aBr 0), .inr (0, [.ref (aBr 1), .ref (aBr 2), .ref (aBr 3), .int (zI (Ro.2.2.2))])), ((aBr 1), .inl (ca 0, 185, .inl (zA (Ro.1)))), ((aBr 2), .inl (ca 0, 185, .inl (zA (Ro.2.1)))), ((aBr 3), .inl (ca 0, 185, .inl (zA (Ro.2.2.1)))), ((aLw 0), .inr (4, [.ref (aLw 1), .ref (aLw 2)])), ((aLw 1), .inl (ca 0, 11, .inl (zA lw_numbers))), ((aRd 0), .inr (6, [.ref (aRd 1), .ref (aRd 2), .ref (aRd 3), .ref (aRd 4), .ref (aRd 5), .int (zI rd_acts), .int (zI rd_total), .int (zI rd_drive), .int (zI rd_runs)])), ((aRd 1), .inl (ca 0, 60, .inl (zA rd_kind))), ((aRd 2), .inl (ca 0, 61, .inl (zA rd_begin))), ((aWh 0), .inr (9, [.ref (aLw 0), .ref (aRd 0), .int (zI wh_base), .int (zI wh_parted)]))]
def oiX9_tellSpell (Ro : (Nat → Int) × (Nat → Int) × (Nat → Int) × Int) : Option Value := none
set_option maxRecDepth 100000 in
theorem kX9_tellSpell (l : Launch) (D : va_G) (ca : Nat → ClassId) (aBr : Nat → Nat) (aLw : Nat → Nat) (aRd : Nat → Nat) (aWh : Nat → Nat) (br_minute : Nat → Int) (br_rule : Nat → Int) (br_much : Nat → Int) (br_size : Int) (lw_numbers : Nat → Int) (rd_kind : Nat → Int) (rd_begin : Nat → Int) (rd_acts : Int) (rd_total : Int) (rd_drive : Int) (rd_runs : Int) (wh_base : Int) (wh_parted : Int) (v2 : Int) (v3 : Int) (Ro : (Nat → Int) × (Nat → Int) × (Nat → Int) × Int)
    (hf : fX9_tellSpell v2 v3 br_minute br_rule br_much br_size lw_numbers rd_kind rd_begin rd_acts rd_total = some Ro) : Zc l D ca yX9_tellSpell cX9_tellSpell 5 none { frames := 2, cells := 0, slots := 0, locals := 47 } [.ref (aWh 0), .ref (aBr 0), .int (zI v2), .int (zI v3)] [((aBr 0), .inr (0, [.ref (aBr 1), .ref (aBr 2), .ref (aBr 3), .int (zI br_size)])), ((aBr 1), .inl (ca 0, 185, .inl (zA br_minute))), ((aBr 2), .inl (ca 0, 185, .inl (zA br_rule))), ((aBr 3), .inl (ca 0, 185, .inl (zA br_much))), ((aLw 0), .inr (4, [.ref (aLw 1), .ref (aLw 2)])), ((aLw 1), .inl (ca 0, 11, .inl (zA lw_numbers))), ((aRd 0), .inr (6, [.ref (aRd 1), .ref (aRd 2), .ref (aRd 3), .ref (aRd 4), .ref (aRd 5), .int (zI rd_acts), .int (zI rd_total), .int (zI rd_drive), .int (zI rd_runs)])), ((aRd 1), .inl (ca 0, 60, .inl (zA rd_kind))), ((aRd 2), .inl (ca 0, 61, .inl (zA rd_begin))), ((aWh 0), .inr (9, [.ref (aLw 0), .ref (aRd 0), .int (zI wh_base), .int (zI wh_parted)]))] (oiX9_tellSpell Ro) (oX9_tellSpell ca aBr aLw aRd aWh lw_numbers rd_kind rd_begin rd_acts rd_total rd_drive rd_runs wh_base wh_parted Ro) := by
  refine ctr_of (lv := [(0, .ref (aWh 0)), (1, .ref (aBr 0)), (2, .int (zI v2)), (3, .int (zI v3))]) (by decide +kernel) (Nat.le_of_ble_eq_true rfl) rfl (fun Γ hl0 C E hnm => ?_)
  unfold fX9_tellSpell at hf
  refine g_iload_n (pc := 0) C 2 dX9_tellSpell_0 rfl rfl ?_
  refine g_aload_n (pc := 1) C 0 dX9_tellSpell_1 rfl rfl ?_
  refine g_get (pc := 2) C zf_X9_19 9 rfl rfl dX9_tellSpell_2 ?_
  refine g_get (pc := 5) C zf_X9_27 4 rfl rfl dX9_tellSpell_5 ?_
  refine g_iconst (pc := 8) C dX9_tellSpell_8 ?_
  refine g_ialdK (pc := 9) C 0 5 rfl rfl (Nat.le_of_ble_eq_true rfl) (Nat.le_of_ble_eq_true rfl) dX9_tellSpell_9 ?_
  refine g_iadd (pc := 10) C dX9_tellSpell_10 ?_
  refine g_istore (pc := 11) C (lv' := [(4, .int (zI (v2 + (lw_numbers 0)))), (0, .ref (aWh 0)), (1, .ref (aBr 0)), (2, .int (zI v2)), (3, .int (zI v3))]) dX9_tellSpell_11 (Nat.le_of_ble_eq_true rfl) rfl ?_
  refine g_iload_n (pc := 13) C 4 dX9_tellSpell_13 rfl rfl ?_
  refine g_iload (pc := 14) C 0 dX9_tellSpell_14 rfl ?_
  refine g_icmp_le (pc := 16) C (tgt := 37) dX9_tellSpell_16 (by decide) hf (fun hf => ?_) (fun hf => ?_)
  · exact g_vret (pc := 37) C hf E rfl (fun _ => 0) [0, 1, 2, 3, 4, 5, 6, 7, 8, 9] (by decide) rfl rfl (Nat.le_refl _) (Nat.le_refl _) dX9_tellSpell_37
  · refine g_aload_n (pc := 19) C 2 dX9_tellSpell_19 rfl rfl ?_
    refine g_aload_n (pc := 20) C 1 dX9_tellSpell_20 rfl rfl ?_
    refine g_get (pc := 21) C zf_X9_23 9 rfl rfl dX9_tellSpell_21 ?_
    refine g_iload (pc := 24) C 0 dX9_tellSpell_24 rfl ?_
    obtain ⟨r_26, hc_26, hf⟩ := Option.bind_eq_some_iff.mp hf
    refine g_callV (pc := 26) C hl0 (wr := [((aBr 0), .inr (0, [.ref (aBr 1), .ref (aBr 2), .ref (aBr 3), .int (zI br_size)])), ((aBr 1), .inl (ca 0, 185, .inl (zA br_minute))), ((aBr 2), .inl (ca 0, 185, .inl (zA br_rule))), ((aBr 3), .inl (ca 0, 185, .inl (zA br_much))), ((aLw 0), .inr (4, [.ref (aLw 1), .ref (aLw 2)])), ((aLw 1), .inl (ca 0, 11, .inl (zA lw_numbers))), ((aWh 0), .inr (9, [.ref (aLw 0), .ref (aRd 0), .int (zI wh_base), .int (zI wh_parted)]))]) (k' := 0) (n' := 0) (ws' := fun _ => [((aBr 0), .inr (0, [.ref (aBr 1), .ref (aBr 2), .ref (aBr 3), .int (zI br_size)])), ((aBr 1), .inl (ca 0, 185, .inl (zA br_minute))), ((aBr 2), .inl (ca 0, 185, .inl (zA br_rule))), ((aBr 3), .inl (ca 0, 185, .inl (zA br_much))), ((aLw 0), .inr (4, [.ref (aLw 1), .ref (aLw 2)])), ((aLw 1), .inl (ca 0, 11, .inl (zA lw_numbers))), ((aWh 0), .inr (9, [.ref (aLw 0), .ref (aRd 0), .int (zI wh_base), .int (zI wh_parted)])), ((aRd 0), .inr (6, [.ref (aRd 1), .ref (aRd 2), .ref (aRd 3), .ref (aRd 4), .ref (aRd 5), .int (zI rd_acts), .int (zI rd_total), .int (zI rd_drive), .int (zI rd_runs)])), ((aRd 1), .inl (ca 0, 60, .inl (zA rd_kind))), ((aRd 2), .inl (ca 0, 61, .inl (zA rd_begin)))]) (st' := [.int (zI r_26), .ref (aBr 0)]) (kX6_driveMinute l D ca aRd rd_kind rd_begin rd_acts rd_total rd_drive rd_runs (v2 + (lw_numbers 0)) r_26 hc_26) wml_RX9_63 wim_X6_driveMinute wse_X6_driveMinute win_RX6 wco_X6_driveMinute (nA := 1) rfl (by decide +kernel)  ⟨(Nat.le_of_ble_eq_true rfl), (Nat.le_of_ble_eq_true rfl)⟩ (Nat.le_refl _) (Nat.le_refl _) rfl (Nat.le_of_ble_eq_true rfl) dX9_tellSpell_26 6 6 rfl rfl rfl [6, 7, 8] [0, 1, 2, 3, 4, 5, 9] rfl rfl rfl (by decide) (by decide) (by decide) rfl rfl (fun _ => rfl) rfl (fun _ => ?_)
    refine g_iconst (pc := 29) C dX9_tellSpell_29 ?_
    refine g_iload_n (pc := 30) C 4 dX9_tellSpell_30 rfl rfl ?_
    refine g_iload (pc := 31) C 0 dX9_tellSpell_31 rfl ?_
    refine g_isub (pc := 33) C dX9_tellSpell_33 ?_
    obtain ⟨⟨br_minute_34, br_rule_34, br_much_34, br_size_34⟩, hc_34, hf⟩ := Option.bind_eq_some_iff.mp hf
    dsimp only at hf
    refine g_callV (pc := 34) C hl0 (wr := [((aLw 0), .inr (4, [.ref (aLw 1), .ref (aLw 2)])), ((aLw 1), .inl (ca 0, 11, .inl (zA lw_numbers))), ((aWh 0), .inr (9, [.ref (aLw 0), .ref (aRd 0), .int (zI wh_base), .int (zI wh_parted)])), ((aRd 0), .inr (6, [.ref (aRd 1), .ref (aRd 2), .ref (aRd 3), .ref (aRd 4), .ref (aRd 5), .int (zI rd_acts), .int (zI rd_total), .int (zI rd_drive), .int (zI rd_runs)])), ((aRd 1), .inl (ca 0, 60, .inl (zA rd_kind))), ((aRd 2), .inl (ca 0, 61, .inl (zA rd_begin)))]) (k' := 0) (n' := 0) (ws' := fun _ => [((aLw 0), .inr (4, [.ref (aLw 1), .ref (aLw 2)])), ((aLw 1), .inl (ca 0, 11, .inl (zA lw_numbers))), ((aWh 0), .inr (9, [.ref (aLw 0), .ref (aRd 0), .int (zI wh_base), .int (zI wh_parted)])), ((aRd 0), .inr (6, [.ref (aRd 1), .ref (aRd 2), .ref (aRd 3), .ref (aRd 4), .ref (aRd 5), .int (zI rd_acts), .int (zI rd_total), .int (zI rd_drive), .int (zI rd_runs)])), ((aRd 1), .inl (ca 0, 60, .inl (zA rd_kind))), ((aRd 2), .inl (ca 0, 61, .inl (zA rd_begin))), ((aBr 0), .inr (0, [.ref (aBr 1), .ref (aBr 2), .ref (aBr 3), .int (zI br_size_34)])), ((aBr 1), .inl (ca 0, 185, .inl (zA br_minute_34))), ((aBr 2), .inl (ca 0, 185, .inl (zA br_rule_34))), ((aBr 3), .inl (ca 0, 185, .inl (zA br_much_34)))]) (st' := []) (kX0_insert l D ca aBr br_minute br_rule br_much br_size r_26 1 (v3 - (v2 + (lw_numbers 0))) (br_minute_34, br_rule_34, br_much_34, br_size_34) hc_34) wml_RX9_66 wim_X0_insert wse_X0_insert win_RX0 wco_X0_insert (nA := 3) rfl (by decide +kernel)  ⟨(Nat.le_of_ble_eq_true rfl), (Nat.le_of_ble_eq_true rfl)⟩ (Nat.le_refl _) (Nat.le_refl _) rfl (Nat.le_of_ble_eq_true rfl) dX9_tellSpell_34 0 0 rfl rfl rfl [0, 1, 2, 3] [4, 5, 6, 7, 8, 9] rfl rfl rfl (by decide) (by decide) (by decide) rfl rfl (fun _ => rfl) rfl (fun _ => ?_)
    exact g_vret (pc := 37) C hf E rfl (fun _ => 0) [6, 7, 8, 9, 0, 1, 3, 4, 5, 2] (by decide) rfl rfl (Nat.le_refl _) (Nat.le_refl _) dX9_tellSpell_37
def oX9_tellOver (ca : Nat → ClassId) (aBr : Nat → Nat) (aLw : Nat → Nat) (aRd : Nat → Nat) (aWh : Nat → Nat) (lw_numbers : Nat → Int) (rd_kind : Nat → Int) (rd_begin : Nat → Int) (rd_runFrom : Nat → Int) (rd_runTo : Nat → Int) (rd_runDrive : Nat → Int) (rd_acts : Int) (rd_total : Int) (rd_drive : Int) (rd_runs : Int) (Ro : (Nat → Int) × (Nat → Int) × (Nat → Int) × Int × Int × Int) : (Nat → Nat) → va_W := fun _ => [((aBr 0), .inr (0, [.ref (aBr 1), .ref (aBr 2), .ref (aBr 3), .int (zI (Ro.2.2.2.1))])), ((aBr 1), .inl (ca 0, 185, .inl (zA (Ro.1)))), ((aBr 2), .inl (ca 0, 185, .inl (zA (Ro.2.1)))), ((aBr 3), .inl (ca 0, 185, .inl (zA (Ro.2.2.1)))), ((aLw 0), .inr (4, [.ref (aLw 1), .ref (aLw 2)])), ((aLw 1), .inl (ca 0, 11, .inl (zA lw_numbers))), ((aRd 0), .inr (6, [.ref (aRd 1), .ref (aRd 2), .ref (aRd 3), .ref (aRd 4), .ref (aRd 5), .int (zI rd_acts), .int (zI rd_total), .int (zI rd_drive), .int (zI rd_runs)])), ((aRd 1), .inl (ca 0, 60, .inl (zA rd_kind))), ((aRd 2), .inl (ca 0, 61, .inl (zA rd_begin))), ((aRd 3), .inl (ca 0, 60, .inl (zA rd_runFrom))), ((aRd 4), .inl (ca 0, 60, .inl (zA rd_runTo))), ((aRd 5), .inl (ca 0, 60, .inl (zA rd_runDrive))), ((aWh 0), .inr (9, [.ref (aLw 0), .ref (aRd 0), .int (zI (Ro.2.2.2.2.1)), .int (zI (Ro.2.2.2.2.2))]))]
def oiX9_tellOver (Ro : (Nat → Int) × (Nat → Int) × (Nat → Int) × Int × Int × Int) : Option Value := none
set_option maxRecDepth 100000 in
theorem kX9_tellOver (l : Launch) (D : va_G) (ca : Nat → ClassId) (aBr : Nat → Nat) (aLw : Nat → Nat) (aRd : Nat → Nat) (aWh : Nat → Nat) (br_minute : Nat → Int) (br_rule : Nat → Int) (br_much : Nat → Int) (br_size : Int) (lw_numbers : Nat → Int) (rd_kind : Nat → Int) (rd_begin : Nat → Int) (rd_runFrom : Nat → Int) (rd_runTo : Nat → Int) (rd_runDrive : Nat → Int) (rd_acts : Int) (rd_total : Int) (rd_drive : Int) (rd_runs : Int) (wh_base : Int) (wh_parted : Int)  (Ro : (Nat → Int) × (Nat → Int) × (Nat → Int) × Int × Int × Int)
    (hf : fX9_tellOver br_minute br_rule br_much br_size lw_numbers rd_kind rd_begin rd_runFrom rd_runTo rd_runDrive rd_acts rd_total rd_drive rd_runs wh_base wh_parted = some Ro) : Zc l D ca yX9_tellOver cX9_tellOver 4 none { frames := 3, cells := 0, slots := 0, locals := 71 } [.ref (aWh 0), .ref (aBr 0)] [((aBr 0), .inr (0, [.ref (aBr 1), .ref (aBr 2), .ref (aBr 3), .int (zI br_size)])), ((aBr 1), .inl (ca 0, 185, .inl (zA br_minute))), ((aBr 2), .inl (ca 0, 185, .inl (zA br_rule))), ((aBr 3), .inl (ca 0, 185, .inl (zA br_much))), ((aLw 0), .inr (4, [.ref (aLw 1), .ref (aLw 2)])), ((aLw 1), .inl (ca 0, 11, .inl (zA lw_numbers))), ((aRd 0), .inr (6, [.ref (aRd 1), .ref (aRd 2), .ref (aRd 3), .ref (aRd 4), .ref (aRd 5), .int (zI rd_acts), .int (zI rd_total), .int (zI rd_drive), .int (zI rd_runs)])), ((aRd 1), .inl (ca 0, 60, .inl (zA rd_kind))), ((aRd 2), .inl (ca 0, 61, .inl (zA rd_begin))), ((aRd 3), .inl (ca 0, 60, .inl (zA rd_runFrom))), ((aRd 4), .inl (ca 0, 60, .inl (zA rd_runTo))), ((aRd 5), .inl (ca 0, 60, .inl (zA rd_runDrive))), ((aWh 0), .inr (9, [.ref (aLw 0), .ref (aRd 0), .int (zI wh_base), .int (zI wh_parted)]))] (oiX9_tellOver Ro) (oX9_tellOver ca aBr aLw aRd aWh lw_numbers rd_kind rd_begin rd_runFrom rd_runTo rd_runDrive rd_acts rd_total rd_drive rd_runs Ro) := by
  refine ctr_of (lv := [(0, .ref (aWh 0)), (1, .ref (aBr 0))]) (by decide +kernel) (Nat.le_of_ble_eq_true rfl) rfl (fun Γ hl0 C E hnm => ?_)
  have H7 : ∀  (n7 : Nat) (v2 : Int) (br_minute : Nat → Int) (br_rule : Nat → Int) (br_much : Nat → Int) (br_size : Int) (wh_base : Int) (wh_parted : Int), zlp (fX9_tellOver_7 lw_numbers rd_kind rd_begin rd_runFrom rd_runTo rd_runDrive rd_acts rd_total rd_drive rd_runs) n7 (v2, br_minute, br_rule, br_much, br_size, wh_base, wh_parted) = some Ro → Zd D Γ 0 0 [((aBr 0), .inr (0, [.ref (aBr 1), .ref (aBr 2), .ref (aBr 3), .int (zI br_size)])), ((aBr 1), .inl (ca 0, 185, .inl (zA br_minute))), ((aBr 2), .inl (ca 0, 185, .inl (zA br_rule))), ((aBr 3), .inl (ca 0, 185, .inl (zA br_much))), ((aLw 0), .inr (4, [.ref (aLw 1), .ref (aLw 2)])), ((aLw 1), .inl (ca 0, 11, .inl (zA lw_numbers))), ((aRd 0), .inr (6, [.ref (aRd 1), .ref (aRd 2), .ref (aRd 3), .ref (aRd 4), .ref (aRd 5), .int (zI rd_acts), .int (zI rd_total), .int (zI rd_drive), .int (zI rd_runs)])), ((aRd 1), .inl (ca 0, 60, .inl (zA rd_kind))), ((aRd 2), .inl (ca 0, 61, .inl (zA rd_begin))), ((aRd 3), .inl (ca 0, 60, .inl (zA rd_runFrom))), ((aRd 4), .inl (ca 0, 60, .inl (zA rd_runTo))), ((aRd 5), .inl (ca 0, 60, .inl (zA rd_runDrive))), ((aWh 0), .inr (9, [.ref (aLw 0), .ref (aRd 0), .int (zI wh_base), .int (zI wh_parted)]))] 7 [(0, .ref (aWh 0)), (1, .ref (aBr 0)), (2, .int (zI v2))] [] := by
    intro n7
    induction n7 with
    | zero =>
      intro v2 br_minute br_rule br_much br_size wh_base wh_parted hf
      exact zno hf
    | succ n7 ih7 =>
      have H46 : ∀ (v2 : Int) (br_minute : Nat → Int) (br_rule : Nat → Int) (br_much : Nat → Int) (br_size : Int) (wh_base : Int) (wh_parted : Int), fX9_tellOver_46 (zlp (fX9_tellOver_7 lw_numbers rd_kind rd_begin rd_runFrom rd_runTo rd_runDrive rd_acts rd_total rd_drive rd_runs) n7) v2 br_minute br_rule br_much br_size wh_base wh_parted = some Ro → Zd D Γ 0 0 [((aBr 0), .inr (0, [.ref (aBr 1), .ref (aBr 2), .ref (aBr 3), .int (zI br_size)])), ((aBr 1), .inl (ca 0, 185, .inl (zA br_minute))), ((aBr 2), .inl (ca 0, 185, .inl (zA br_rule))), ((aBr 3), .inl (ca 0, 185, .inl (zA br_much))), ((aLw 0), .inr (4, [.ref (aLw 1), .ref (aLw 2)])), ((aLw 1), .inl (ca 0, 11, .inl (zA lw_numbers))), ((aRd 0), .inr (6, [.ref (aRd 1), .ref (aRd 2), .ref (aRd 3), .ref (aRd 4), .ref (aRd 5), .int (zI rd_acts), .int (zI rd_total), .int (zI rd_drive), .int (zI rd_runs)])), ((aRd 1), .inl (ca 0, 60, .inl (zA rd_kind))), ((aRd 2), .inl (ca 0, 61, .inl (zA rd_begin))), ((aRd 3), .inl (ca 0, 60, .inl (zA rd_runFrom))), ((aRd 4), .inl (ca 0, 60, .inl (zA rd_runTo))), ((aRd 5), .inl (ca 0, 60, .inl (zA rd_runDrive))), ((aWh 0), .inr (9, [.ref (aLw 0), .ref (aRd 0), .int (zI wh_base), .int (zI wh_parted)]))] 46 [(0, .ref (aWh 0)), (1, .ref (aBr 0)), (2, .int (zI v2))] [] := by
        intro v2 br_minute br_rule br_much br_size wh_base wh_parted hf
        unfold fX9_tellOver_46 at hf
        refine g_iinc (pc := 46) C 2 (lv' := [(2, .int (zI (v2 + 1))), (0, .ref (aWh 0)), (1, .ref (aBr 0))]) dX9_tellOver_46 rfl (Nat.le_of_ble_eq_true rfl) rfl ?_
        refine g_goto (pc := 49) C (tgt := 7) dX9_tellOver_49 (by decide) ?_
        refine g_sub [0, 1, 2, 3, 4, 5, 6, 7, 8, 9, 10, 11, 12] [1, 2, 0] (by decide) rfl rfl rfl ?_
        exact ih7 _ _ _ _ _ _ _ hf
      intro v2 br_minute br_rule br_much br_size wh_base wh_parted hf
      rw [zlp_s] at hf
      unfold fX9_tellOver_7 at hf
      dsimp only at hf
      refine g_iload_n (pc := 7) C 2 dX9_tellOver_7 rfl rfl ?_
      refine g_aload_n (pc := 8) C 0 dX9_tellOver_8 rfl rfl ?_
      refine g_get (pc := 9) C zf_X9_23 12 rfl rfl dX9_tellOver_9 ?_
      refine g_get (pc := 12) C zf_X9_53 6 rfl rfl dX9_tellOver_12 ?_
      refine g_icmp_ge (pc := 15) C (tgt := 52) dX9_tellOver_15 (by decide) hf (fun hf => ?_) (fun hf => ?_)
      · refine g_aload_n (pc := 52) C 0 dX9_tellOver_52 rfl rfl ?_
        refine g_aload_n (pc := 53) C 1 dX9_tellOver_53 rfl rfl ?_
        refine g_aload_n (pc := 54) C 0 dX9_tellOver_54 rfl rfl ?_
        refine g_get (pc := 55) C zf_X9_9 12 rfl rfl dX9_tellOver_55 ?_
        refine g_aload_n (pc := 58) C 0 dX9_tellOver_58 rfl rfl ?_
        refine g_get (pc := 59) C zf_X9_23 12 rfl rfl dX9_tellOver_59 ?_
        refine g_get (pc := 62) C zf_X9_60 6 rfl rfl dX9_tellOver_62 ?_
        obtain ⟨⟨br_minute_65, br_rule_65, br_much_65, br_size_65⟩, hc_65, hf⟩ := Option.bind_eq_some_iff.mp hf
        dsimp only at hf
        refine g_callV (pc := 65) C hl0 (wr := [((aRd 3), .inl (ca 0, 60, .inl (zA rd_runFrom))), ((aRd 4), .inl (ca 0, 60, .inl (zA rd_runTo))), ((aRd 5), .inl (ca 0, 60, .inl (zA rd_runDrive)))]) (k' := 0) (n' := 0) (ws' := fun _ => [((aRd 3), .inl (ca 0, 60, .inl (zA rd_runFrom))), ((aRd 4), .inl (ca 0, 60, .inl (zA rd_runTo))), ((aRd 5), .inl (ca 0, 60, .inl (zA rd_runDrive))), ((aBr 0), .inr (0, [.ref (aBr 1), .ref (aBr 2), .ref (aBr 3), .int (zI br_size_65)])), ((aBr 1), .inl (ca 0, 185, .inl (zA br_minute_65))), ((aBr 2), .inl (ca 0, 185, .inl (zA br_rule_65))), ((aBr 3), .inl (ca 0, 185, .inl (zA br_much_65))), ((aLw 0), .inr (4, [.ref (aLw 1), .ref (aLw 2)])), ((aLw 1), .inl (ca 0, 11, .inl (zA lw_numbers))), ((aRd 0), .inr (6, [.ref (aRd 1), .ref (aRd 2), .ref (aRd 3), .ref (aRd 4), .ref (aRd 5), .int (zI rd_acts), .int (zI rd_total), .int (zI rd_drive), .int (zI rd_runs)])), ((aRd 1), .inl (ca 0, 60, .inl (zA rd_kind))), ((aRd 2), .inl (ca 0, 61, .inl (zA rd_begin))), ((aWh 0), .inr (9, [.ref (aLw 0), .ref (aRd 0), .int (zI wh_base), .int (zI wh_parted)]))]) (st' := []) (kX9_tellSpell l D ca aBr aLw aRd aWh br_minute br_rule br_much br_size lw_numbers rd_kind rd_begin rd_acts rd_total rd_drive rd_runs wh_base wh_parted wh_base rd_drive (br_minute_65, br_rule_65, br_much_65, br_size_65) hc_65) wml_RX9_56 wim_X9_tellSpell wse_X9_tellSpell win_RX9 wco_X9_tellSpell (nA := 3) rfl (by decide +kernel)  ⟨(Nat.le_of_ble_eq_true rfl), (Nat.le_of_ble_eq_true rfl)⟩ (Nat.le_refl _) (Nat.le_refl _) rfl (Nat.le_of_ble_eq_true rfl) dX9_tellOver_65 12 9 rfl rfl rfl [0, 1, 2, 3, 4, 5, 6, 7, 8, 12] [9, 10, 11] rfl rfl rfl (by decide) (by decide) (by decide) rfl rfl (fun _ => rfl) rfl (fun _ => ?_)
        exact g_vret (pc := 68) C hf E rfl (fun _ => 0) [3, 4, 5, 6, 7, 8, 9, 10, 11, 0, 1, 2, 12] (by decide) rfl rfl (Nat.le_refl _) (Nat.le_refl _) dX9_tellOver_68
      · refine g_aload_n (pc := 18) C 0 dX9_tellOver_18 rfl rfl ?_
        refine g_get (pc := 19) C zf_X9_9 12 rfl rfl dX9_tellOver_19 ?_
        refine g_istore_n (pc := 22) C (lv' := [(3, .int (zI wh_base)), (0, .ref (aWh 0)), (1, .ref (aBr 0)), (2, .int (zI v2))]) dX9_tellOver_22 rfl (Nat.le_of_ble_eq_true rfl) rfl ?_
        refine g_aload_n (pc := 23) C 1 dX9_tellOver_23 rfl rfl ?_
        refine g_iload_n (pc := 24) C 3 dX9_tellOver_24 rfl rfl ?_
        obtain ⟨⟨wh_base_25, wh_parted_25⟩, hc_25, hf⟩ := Option.bind_eq_some_iff.mp hf
        dsimp only at hf
        refine g_callV (pc := 25) C hl0 (wr := [((aBr 0), .inr (0, [.ref (aBr 1), .ref (aBr 2), .ref (aBr 3), .int (zI br_size)])), ((aBr 1), .inl (ca 0, 185, .inl (zA br_minute))), ((aBr 2), .inl (ca 0, 185, .inl (zA br_rule))), ((aBr 3), .inl (ca 0, 185, .inl (zA br_much))), ((aRd 1), .inl (ca 0, 60, .inl (zA rd_kind))), ((aRd 2), .inl (ca 0, 61, .inl (zA rd_begin)))]) (k' := 0) (n' := 0) (ws' := fun _ => [((aBr 0), .inr (0, [.ref (aBr 1), .ref (aBr 2), .ref (aBr 3), .int (zI br_size)])), ((aBr 1), .inl (ca 0, 185, .inl (zA br_minute))), ((aBr 2), .inl (ca 0, 185, .inl (zA br_rule))), ((aBr 3), .inl (ca 0, 185, .inl (zA br_much))), ((aRd 1), .inl (ca 0, 60, .inl (zA rd_kind))), ((aRd 2), .inl (ca 0, 61, .inl (zA rd_begin))), ((aLw 0), .inr (4, [.ref (aLw 1), .ref (aLw 2)])), ((aLw 1), .inl (ca 0, 11, .inl (zA lw_numbers))), ((aRd 0), .inr (6, [.ref (aRd 1), .ref (aRd 2), .ref (aRd 3), .ref (aRd 4), .ref (aRd 5), .int (zI rd_acts), .int (zI rd_total), .int (zI rd_drive), .int (zI rd_runs)])), ((aRd 3), .inl (ca 0, 60, .inl (zA rd_runFrom))), ((aRd 4), .inl (ca 0, 60, .inl (zA rd_runTo))), ((aRd 5), .inl (ca 0, 60, .inl (zA rd_runDrive))), ((aWh 0), .inr (9, [.ref (aLw 0), .ref (aRd 0), .int (zI wh_base_25), .int (zI wh_parted_25)]))]) (st' := []) (kX9_passRun l D ca aLw aRd aWh lw_numbers rd_runFrom rd_runTo rd_runDrive rd_acts rd_total rd_drive rd_runs wh_base wh_parted v2 (wh_base_25, wh_parted_25) hc_25) wml_RX9_46 wim_X9_passRun wse_X9_passRun win_RX9 wco_X9_passRun (nA := 1) rfl (by decide +kernel)  ⟨(Nat.le_of_ble_eq_true rfl), (Nat.le_of_ble_eq_true rfl)⟩ (Nat.le_refl _) (Nat.le_refl _) rfl (Nat.le_of_ble_eq_true rfl) dX9_tellOver_25 12 9 rfl rfl rfl [4, 5, 6, 9, 10, 11, 12] [0, 1, 2, 3, 7, 8] rfl rfl rfl (by decide) (by decide) (by decide) rfl rfl (fun _ => rfl) rfl (fun _ => ?_)
        refine g_aload_n (pc := 28) C 1 dX9_tellOver_28 rfl rfl ?_
        refine g_get (pc := 29) C zf_X9_9 12 rfl rfl dX9_tellOver_29 ?_
        refine g_iload_n (pc := 32) C 0 dX9_tellOver_32 rfl rfl ?_
        refine g_icmp_le (pc := 33) C (tgt := 46) dX9_tellOver_33 (by decide) hf (fun hf => ?_) (fun hf => ?_)
        · refine g_sub [0, 1, 2, 3, 6, 7, 8, 4, 5, 9, 10, 11, 12] [1, 2, 3] (by decide) rfl rfl rfl ?_
          exact H46 _ _ _ _ _ _ _ hf
        · refine g_aload_n (pc := 36) C 1 dX9_tellOver_36 rfl rfl ?_
          refine g_aload_n (pc := 37) C 2 dX9_tellOver_37 rfl rfl ?_
          refine g_iload_n (pc := 38) C 0 dX9_tellOver_38 rfl rfl ?_
          refine g_aload_n (pc := 39) C 1 dX9_tellOver_39 rfl rfl ?_
          refine g_get (pc := 40) C zf_X9_9 12 rfl rfl dX9_tellOver_40 ?_
          obtain ⟨⟨br_minute_43, br_rule_43, br_much_43, br_size_43⟩, hc_43, hf⟩ := Option.bind_eq_some_iff.mp hf
          dsimp only at hf
          refine g_callV (pc := 43) C hl0 (wr := [((aRd 3), .inl (ca 0, 60, .inl (zA rd_runFrom))), ((aRd 4), .inl (ca 0, 60, .inl (zA rd_runTo))), ((aRd 5), .inl (ca 0, 60, .inl (zA rd_runDrive)))]) (k' := 0) (n' := 0) (ws' := fun _ => [((aRd 3), .inl (ca 0, 60, .inl (zA rd_runFrom))), ((aRd 4), .inl (ca 0, 60, .inl (zA rd_runTo))), ((aRd 5), .inl (ca 0, 60, .inl (zA rd_runDrive))), ((aBr 0), .inr (0, [.ref (aBr 1), .ref (aBr 2), .ref (aBr 3), .int (zI br_size_43)])), ((aBr 1), .inl (ca 0, 185, .inl (zA br_minute_43))), ((aBr 2), .inl (ca 0, 185, .inl (zA br_rule_43))), ((aBr 3), .inl (ca 0, 185, .inl (zA br_much_43))), ((aLw 0), .inr (4, [.ref (aLw 1), .ref (aLw 2)])), ((aLw 1), .inl (ca 0, 11, .inl (zA lw_numbers))), ((aRd 0), .inr (6, [.ref (aRd 1), .ref (aRd 2), .ref (aRd 3), .ref (aRd 4), .ref (aRd 5), .int (zI rd_acts), .int (zI rd_total), .int (zI rd_drive), .int (zI rd_runs)])), ((aRd 1), .inl (ca 0, 60, .inl (zA rd_kind))), ((aRd 2), .inl (ca 0, 61, .inl (zA rd_begin))), ((aWh 0), .inr (9, [.ref (aLw 0), .ref (aRd 0), .int (zI wh_base_25), .int (zI wh_parted_25)]))]) (st' := []) (kX9_tellSpell l D ca aBr aLw aRd aWh br_minute br_rule br_much br_size lw_numbers rd_kind rd_begin rd_acts rd_total rd_drive rd_runs wh_base_25 wh_parted_25 wh_base wh_base_25 (br_minute_43, br_rule_43, br_much_43, br_size_43) hc_43) wml_RX9_56 wim_X9_tellSpell wse_X9_tellSpell win_RX9 wco_X9_tellSpell (nA := 3) rfl (by decide +kernel)  ⟨(Nat.le_of_ble_eq_true rfl), (Nat.le_of_ble_eq_true rfl)⟩ (Nat.le_refl _) (Nat.le_refl _) rfl (Nat.le_of_ble_eq_true rfl) dX9_tellOver_43 12 9 rfl rfl rfl [0, 1, 2, 3, 6, 7, 8, 4, 5, 12] [9, 10, 11] rfl rfl rfl (by decide) (by decide) (by decide) rfl rfl (fun _ => rfl) rfl (fun _ => ?_)
          refine g_sub [3, 4, 5, 6, 7, 8, 9, 10, 11, 0, 1, 2, 12] [1, 2, 3] (by decide) rfl rfl rfl ?_
          exact H46 _ _ _ _ _ _ _ hf
  unfold fX9_tellOver at hf
  refine g_aload_n (pc := 0) C 0 dX9_tellOver_0 rfl rfl ?_
  refine g_iconst (pc := 1) C dX9_tellOver_1 ?_
  obtain ⟨⟨wh_base_2, wh_parted_2⟩, hc_2, hf⟩ := Option.bind_eq_some_iff.mp hf
  dsimp only at hf
  refine g_callV (pc := 2) C hl0 (wr := [((aBr 0), .inr (0, [.ref (aBr 1), .ref (aBr 2), .ref (aBr 3), .int (zI br_size)])), ((aBr 1), .inl (ca 0, 185, .inl (zA br_minute))), ((aBr 2), .inl (ca 0, 185, .inl (zA br_rule))), ((aBr 3), .inl (ca 0, 185, .inl (zA br_much))), ((aRd 1), .inl (ca 0, 60, .inl (zA rd_kind))), ((aRd 2), .inl (ca 0, 61, .inl (zA rd_begin)))]) (k' := 0) (n' := 0) (ws' := fun _ => [((aBr 0), .inr (0, [.ref (aBr 1), .ref (aBr 2), .ref (aBr 3), .int (zI br_size)])), ((aBr 1), .inl (ca 0, 185, .inl (zA br_minute))), ((aBr 2), .inl (ca 0, 185, .inl (zA br_rule))), ((aBr 3), .inl (ca 0, 185, .inl (zA br_much))), ((aRd 1), .inl (ca 0, 60, .inl (zA rd_kind))), ((aRd 2), .inl (ca 0, 61, .inl (zA rd_begin))), ((aLw 0), .inr (4, [.ref (aLw 1), .ref (aLw 2)])), ((aLw 1), .inl (ca 0, 11, .inl (zA lw_numbers))), ((aRd 0), .inr (6, [.ref (aRd 1), .ref (aRd 2), .ref (aRd 3), .ref (aRd 4), .ref (aRd 5), .int (zI rd_acts), .int (zI rd_total), .int (zI rd_drive), .int (zI rd_runs)])), ((aRd 3), .inl (ca 0, 60, .inl (zA rd_runFrom))), ((aRd 4), .inl (ca 0, 60, .inl (zA rd_runTo))), ((aRd 5), .inl (ca 0, 60, .inl (zA rd_runDrive))), ((aWh 0), .inr (9, [.ref (aLw 0), .ref (aRd 0), .int (zI wh_base_2), .int (zI wh_parted_2)]))]) (st' := []) (kX9_passRuns l D ca aLw aRd aWh lw_numbers rd_runFrom rd_runTo rd_runDrive rd_acts rd_total rd_drive rd_runs wh_base wh_parted 0 (wh_base_2, wh_parted_2) hc_2) wml_RX9_50 wim_X9_passRuns wse_X9_passRuns win_RX9 wco_X9_passRuns (nA := 1) rfl (by decide +kernel)  ⟨(Nat.le_of_ble_eq_true rfl), (Nat.le_of_ble_eq_true rfl)⟩ (Nat.le_refl _) (Nat.le_refl _) rfl (Nat.le_of_ble_eq_true rfl) dX9_tellOver_2 12 9 rfl rfl rfl [4, 5, 6, 9, 10, 11, 12] [0, 1, 2, 3, 7, 8] rfl rfl rfl (by decide) (by decide) (by decide) rfl rfl (fun _ => rfl) rfl (fun _ => ?_)
  refine g_iconst (pc := 5) C dX9_tellOver_5 ?_
  refine g_istore_n (pc := 6) C (lv' := [(2, .int (zI 0)), (0, .ref (aWh 0)), (1, .ref (aBr 0))]) dX9_tellOver_6 rfl (Nat.le_of_ble_eq_true rfl) rfl ?_
  refine g_sub [0, 1, 2, 3, 6, 7, 8, 4, 5, 9, 10, 11, 12] [1, 2, 0] (by decide) rfl rfl rfl ?_
  exact H7 _ _ _ _ _ _ _ _ hf
def oX5_addMark (ca : Nat → ClassId) (aPl : Nat → Nat) (aLw : Nat → Nat) (aRd : Nat → Nat) (aDy : Nat → Nat) (aLe : Nat) (pl_mostTaken : Int) (pl_mostExtended : Int) (Ro : (Nat → Int) × (Nat → Int) × (Nat → Int) × (Nat → Int) × (Nat → Int) × Int) : (Nat → Nat) → va_W := fun _ => [((aPl 0), .inr (5, [.ref (aLw 0), .ref (aRd 0), .ref (aDy 0), .ref (aPl 4), .ref (aPl 5), .ref (aPl 6), .ref (aPl 7), .ref (aPl 8), .int (zI (Ro.2.2.2.2.2)), .int (zI pl_mostTaken), .int (zI pl_mostExtended), .ref aLe])), ((aPl 4), .inl (ca 0, 62, .inl (zA (Ro.1)))), ((aPl 5), .inl (ca 0, 62, .inl (zA (Ro.2.1)))), ((aPl 6), .inl (ca 0, 62, .inl (zA (Ro.2.2.1)))), ((aPl 7), .inl (ca 0, 62, .inl (zA (Ro.2.2.2.1)))), ((aPl 8), .inl (ca 2, 62, .inr (.inl (zB (Ro.2.2.2.2.1)))))]
def oiX5_addMark (Ro : (Nat → Int) × (Nat → Int) × (Nat → Int) × (Nat → Int) × (Nat → Int) × Int) : Option Value := none
set_option maxRecDepth 100000 in
theorem kX5_addMark (l : Launch) (D : va_G) (ca : Nat → ClassId) (aPl : Nat → Nat) (aLw : Nat → Nat) (aRd : Nat → Nat) (aDy : Nat → Nat) (aLe : Nat) (pl_minute : Nat → Int) (pl_drive : Nat → Int) (pl_enough : Nat → Int) (pl_endedBy : Nat → Int) (pl_ownPrice : Nat → Int) (pl_marks : Int) (pl_mostTaken : Int) (pl_mostExtended : Int) (v1 : Int) (v2 : Int) (v3 : Int) (v4 : Int) (v5 : Int) (Ro : (Nat → Int) × (Nat → Int) × (Nat → Int) × (Nat → Int) × (Nat → Int) × Int)
    (hf : fX5_addMark v1 v2 v3 v4 v5 pl_minute pl_drive pl_enough pl_endedBy pl_ownPrice pl_marks = some Ro) : Zc l D ca yX5_addMark cX5_addMark 7 none { frames := 0, cells := 0, slots := 0, locals := 0 } [.ref (aPl 0), .int (zI v1), .int (zI v2), .int (zI v3), .int (zI v4), .long (zJ v5)] [((aPl 0), .inr (5, [.ref (aLw 0), .ref (aRd 0), .ref (aDy 0), .ref (aPl 4), .ref (aPl 5), .ref (aPl 6), .ref (aPl 7), .ref (aPl 8), .int (zI pl_marks), .int (zI pl_mostTaken), .int (zI pl_mostExtended), .ref aLe])), ((aPl 4), .inl (ca 0, 62, .inl (zA pl_minute))), ((aPl 5), .inl (ca 0, 62, .inl (zA pl_drive))), ((aPl 6), .inl (ca 0, 62, .inl (zA pl_enough))), ((aPl 7), .inl (ca 0, 62, .inl (zA pl_endedBy))), ((aPl 8), .inl (ca 2, 62, .inr (.inl (zB pl_ownPrice))))] (oiX5_addMark Ro) (oX5_addMark ca aPl aLw aRd aDy aLe pl_mostTaken pl_mostExtended Ro) := by
  refine ctr_of (lv := [(0, .ref (aPl 0)), (1, .int (zI v1)), (2, .int (zI v2)), (3, .int (zI v3)), (4, .int (zI v4)), (5, .long (zJ v5))]) (by decide +kernel) (Nat.le_of_ble_eq_true rfl) rfl (fun Γ hl0 C E hnm => ?_)
  unfold fX5_addMark at hf
  refine g_aload_n (pc := 0) C 0 dX5_addMark_0 rfl rfl ?_
  refine g_get (pc := 1) C zf_X5_28 0 rfl rfl dX5_addMark_1 ?_
  refine g_bipush (pc := 4) C dX5_addMark_4 (by decide) ?_
  refine g_icmp_ger (pc := 6) C (tgt := 71) dX5_addMark_6 (by decide) (by decide) hf (fun hf => ?_) (fun hf => ?_)
  · exact g_vret (pc := 71) C hf E rfl (fun _ => 0) [0, 1, 2, 3, 4, 5] (by decide) rfl rfl (Nat.le_refl _) (Nat.le_refl _) dX5_addMark_71
  · refine g_aload_n (pc := 9) C 0 dX5_addMark_9 rfl rfl ?_
    refine g_get (pc := 10) C zf_X5_11 0 rfl rfl dX5_addMark_10 ?_
    refine g_aload_n (pc := 13) C 0 dX5_addMark_13 rfl rfl ?_
    refine g_get (pc := 14) C zf_X5_28 0 rfl rfl dX5_addMark_14 ?_
    refine g_iload_n (pc := 17) C 1 dX5_addMark_17 rfl rfl ?_
    refine g_iast (pc := 18) C (N := 62) (ws' := [((aPl 0), .inr (5, [.ref (aLw 0), .ref (aRd 0), .ref (aDy 0), .ref (aPl 4), .ref (aPl 5), .ref (aPl 6), .ref (aPl 7), .ref (aPl 8), .int (zI pl_marks), .int (zI pl_mostTaken), .int (zI pl_mostExtended), .ref aLe])), ((aPl 4), .inl (ca 0, 62, .inl (zA (zU pl_minute pl_marks.toNat v1)))), ((aPl 5), .inl (ca 0, 62, .inl (zA pl_drive))), ((aPl 6), .inl (ca 0, 62, .inl (zA pl_enough))), ((aPl 7), .inl (ca 0, 62, .inl (zA pl_endedBy))), ((aPl 8), .inl (ca 2, 62, .inr (.inl (zB pl_ownPrice))))]) 1 rfl rfl (Nat.le_of_ble_eq_true rfl) rfl dX5_addMark_18 hf (fun hf => ?_)
    refine g_aload_n (pc := 19) C 0 dX5_addMark_19 rfl rfl ?_
    refine g_get (pc := 20) C zf_X5_15 0 rfl rfl dX5_addMark_20 ?_
    refine g_aload_n (pc := 23) C 0 dX5_addMark_23 rfl rfl ?_
    refine g_get (pc := 24) C zf_X5_28 0 rfl rfl dX5_addMark_24 ?_
    refine g_iload_n (pc := 27) C 2 dX5_addMark_27 rfl rfl ?_
    refine g_iast (pc := 28) C (N := 62) (ws' := [((aPl 0), .inr (5, [.ref (aLw 0), .ref (aRd 0), .ref (aDy 0), .ref (aPl 4), .ref (aPl 5), .ref (aPl 6), .ref (aPl 7), .ref (aPl 8), .int (zI pl_marks), .int (zI pl_mostTaken), .int (zI pl_mostExtended), .ref aLe])), ((aPl 4), .inl (ca 0, 62, .inl (zA (zU pl_minute pl_marks.toNat v1)))), ((aPl 5), .inl (ca 0, 62, .inl (zA (zU pl_drive pl_marks.toNat v2)))), ((aPl 6), .inl (ca 0, 62, .inl (zA pl_enough))), ((aPl 7), .inl (ca 0, 62, .inl (zA pl_endedBy))), ((aPl 8), .inl (ca 2, 62, .inr (.inl (zB pl_ownPrice))))]) 2 rfl rfl (Nat.le_of_ble_eq_true rfl) rfl dX5_addMark_28 hf (fun hf => ?_)
    refine g_aload_n (pc := 29) C 0 dX5_addMark_29 rfl rfl ?_
    refine g_get (pc := 30) C zf_X5_18 0 rfl rfl dX5_addMark_30 ?_
    refine g_aload_n (pc := 33) C 0 dX5_addMark_33 rfl rfl ?_
    refine g_get (pc := 34) C zf_X5_28 0 rfl rfl dX5_addMark_34 ?_
    refine g_iload_n (pc := 37) C 3 dX5_addMark_37 rfl rfl ?_
    refine g_iast (pc := 38) C (N := 62) (ws' := [((aPl 0), .inr (5, [.ref (aLw 0), .ref (aRd 0), .ref (aDy 0), .ref (aPl 4), .ref (aPl 5), .ref (aPl 6), .ref (aPl 7), .ref (aPl 8), .int (zI pl_marks), .int (zI pl_mostTaken), .int (zI pl_mostExtended), .ref aLe])), ((aPl 4), .inl (ca 0, 62, .inl (zA (zU pl_minute pl_marks.toNat v1)))), ((aPl 5), .inl (ca 0, 62, .inl (zA (zU pl_drive pl_marks.toNat v2)))), ((aPl 6), .inl (ca 0, 62, .inl (zA (zU pl_enough pl_marks.toNat v3)))), ((aPl 7), .inl (ca 0, 62, .inl (zA pl_endedBy))), ((aPl 8), .inl (ca 2, 62, .inr (.inl (zB pl_ownPrice))))]) 3 rfl rfl (Nat.le_of_ble_eq_true rfl) rfl dX5_addMark_38 hf (fun hf => ?_)
    refine g_aload_n (pc := 39) C 0 dX5_addMark_39 rfl rfl ?_
    refine g_get (pc := 40) C zf_X5_21 0 rfl rfl dX5_addMark_40 ?_
    refine g_aload_n (pc := 43) C 0 dX5_addMark_43 rfl rfl ?_
    refine g_get (pc := 44) C zf_X5_28 0 rfl rfl dX5_addMark_44 ?_
    refine g_iload (pc := 47) C 4 dX5_addMark_47 rfl ?_
    refine g_iast (pc := 49) C (N := 62) (ws' := [((aPl 0), .inr (5, [.ref (aLw 0), .ref (aRd 0), .ref (aDy 0), .ref (aPl 4), .ref (aPl 5), .ref (aPl 6), .ref (aPl 7), .ref (aPl 8), .int (zI pl_marks), .int (zI pl_mostTaken), .int (zI pl_mostExtended), .ref aLe])), ((aPl 4), .inl (ca 0, 62, .inl (zA (zU pl_minute pl_marks.toNat v1)))), ((aPl 5), .inl (ca 0, 62, .inl (zA (zU pl_drive pl_marks.toNat v2)))), ((aPl 6), .inl (ca 0, 62, .inl (zA (zU pl_enough pl_marks.toNat v3)))), ((aPl 7), .inl (ca 0, 62, .inl (zA (zU pl_endedBy pl_marks.toNat v4)))), ((aPl 8), .inl (ca 2, 62, .inr (.inl (zB pl_ownPrice))))]) 4 rfl rfl (Nat.le_of_ble_eq_true rfl) rfl dX5_addMark_49 hf (fun hf => ?_)
    refine g_aload_n (pc := 50) C 0 dX5_addMark_50 rfl rfl ?_
    refine g_get (pc := 51) C zf_X5_24 0 rfl rfl dX5_addMark_51 ?_
    refine g_aload_n (pc := 54) C 0 dX5_addMark_54 rfl rfl ?_
    refine g_get (pc := 55) C zf_X5_28 0 rfl rfl dX5_addMark_55 ?_
    refine g_lload (pc := 58) C 5 dX5_addMark_58 rfl ?_
    refine g_last (pc := 60) C (N := 62) (ws' := [((aPl 0), .inr (5, [.ref (aLw 0), .ref (aRd 0), .ref (aDy 0), .ref (aPl 4), .ref (aPl 5), .ref (aPl 6), .ref (aPl 7), .ref (aPl 8), .int (zI pl_marks), .int (zI pl_mostTaken), .int (zI pl_mostExtended), .ref aLe])), ((aPl 4), .inl (ca 0, 62, .inl (zA (zU pl_minute pl_marks.toNat v1)))), ((aPl 5), .inl (ca 0, 62, .inl (zA (zU pl_drive pl_marks.toNat v2)))), ((aPl 6), .inl (ca 0, 62, .inl (zA (zU pl_enough pl_marks.toNat v3)))), ((aPl 7), .inl (ca 0, 62, .inl (zA (zU pl_endedBy pl_marks.toNat v4)))), ((aPl 8), .inl (ca 2, 62, .inr (.inl (zB (zU pl_ownPrice pl_marks.toNat v5)))))]) 5 rfl rfl rfl dX5_addMark_60 hf (fun hf => ?_)
    refine g_aload_n (pc := 61) C 0 dX5_addMark_61 rfl rfl ?_
    refine g_dup (pc := 62) C dX5_addMark_62 rfl ?_
    refine g_get (pc := 63) C zf_X5_28 0 rfl rfl dX5_addMark_63 ?_
    refine g_iconst (pc := 66) C dX5_addMark_66 ?_
    refine g_iadd (pc := 67) C dX5_addMark_67 ?_
    refine g_put (pc := 68) C zf_X5_28 tyX5 tyX5_ok nmX5 (v := .int (zI (pl_marks + 1))) (ws' := [((aPl 0), .inr (5, [.ref (aLw 0), .ref (aRd 0), .ref (aDy 0), .ref (aPl 4), .ref (aPl 5), .ref (aPl 6), .ref (aPl 7), .ref (aPl 8), .int (zI (pl_marks + 1)), .int (zI pl_mostTaken), .int (zI pl_mostExtended), .ref aLe])), ((aPl 4), .inl (ca 0, 62, .inl (zA (zU pl_minute pl_marks.toNat v1)))), ((aPl 5), .inl (ca 0, 62, .inl (zA (zU pl_drive pl_marks.toNat v2)))), ((aPl 6), .inl (ca 0, 62, .inl (zA (zU pl_enough pl_marks.toNat v3)))), ((aPl 7), .inl (ca 0, 62, .inl (zA (zU pl_endedBy pl_marks.toNat v4)))), ((aPl 8), .inl (ca 2, 62, .inr (.inl (zB (zU pl_ownPrice pl_marks.toNat v5)))))]) 0 rfl rfl rfl rfl rfl (Nat.le_of_ble_eq_true rfl) rfl rfl dX5_addMark_68 ?_
    exact g_vret (pc := 71) C hf E rfl (fun _ => 0) [0, 1, 2, 3, 4, 5] (by decide) rfl rfl (Nat.le_refl _) (Nat.le_refl _) dX5_addMark_71
def oX5_addRest (ca : Nat → ClassId) (aPl : Nat → Nat) (aLw : Nat → Nat) (aRd : Nat → Nat) (aDy : Nat → Nat) (aLe : Nat) (pl_mostTaken : Int) (pl_mostExtended : Int) (rd_runFrom : Nat → Int) (rd_runTo : Nat → Int) (rd_runDrive : Nat → Int) (rd_acts : Int) (rd_total : Int) (rd_drive : Int) (rd_runs : Int) (Ro : (Nat → Int) × (Nat → Int) × (Nat → Int) × (Nat → Int) × (Nat → Int) × Int) : (Nat → Nat) → va_W := fun _ => [((aPl 0), .inr (5, [.ref (aLw 0), .ref (aRd 0), .ref (aDy 0), .ref (aPl 4), .ref (aPl 5), .ref (aPl 6), .ref (aPl 7), .ref (aPl 8), .int (zI (Ro.2.2.2.2.2)), .int (zI pl_mostTaken), .int (zI pl_mostExtended), .ref aLe])), ((aPl 4), .inl (ca 0, 62, .inl (zA (Ro.1)))), ((aPl 5), .inl (ca 0, 62, .inl (zA (Ro.2.1)))), ((aPl 6), .inl (ca 0, 62, .inl (zA (Ro.2.2.1)))), ((aPl 7), .inl (ca 0, 62, .inl (zA (Ro.2.2.2.1)))), ((aPl 8), .inl (ca 2, 62, .inr (.inl (zB (Ro.2.2.2.2.1))))), ((aRd 0), .inr (6, [.ref (aRd 1), .ref (aRd 2), .ref (aRd 3), .ref (aRd 4), .ref (aRd 5), .int (zI rd_acts), .int (zI rd_total), .int (zI rd_drive), .int (zI rd_runs)])), ((aRd 3), .inl (ca 0, 60, .inl (zA rd_runFrom))), ((aRd 4), .inl (ca 0, 60, .inl (zA rd_runTo))), ((aRd 5), .inl (ca 0, 60, .inl (zA rd_runDrive)))]
def oiX5_addRest (Ro : (Nat → Int) × (Nat → Int) × (Nat → Int) × (Nat → Int) × (Nat → Int) × Int) : Option Value := none
set_option maxRecDepth 100000 in
theorem kX5_addRest (l : Launch) (D : va_G) (ca : Nat → ClassId) (aPl : Nat → Nat) (aLw : Nat → Nat) (aRd : Nat → Nat) (aDy : Nat → Nat) (aLe : Nat) (pl_minute : Nat → Int) (pl_drive : Nat → Int) (pl_enough : Nat → Int) (pl_endedBy : Nat → Int) (pl_ownPrice : Nat → Int) (pl_marks : Int) (pl_mostTaken : Int) (pl_mostExtended : Int) (rd_runFrom : Nat → Int) (rd_runTo : Nat → Int) (rd_runDrive : Nat → Int) (rd_acts : Int) (rd_total : Int) (rd_drive : Int) (rd_runs : Int) (v1 : Int) (v2 : Int) (v3 : Int) (v4 : Int) (Ro : (Nat → Int) × (Nat → Int) × (Nat → Int) × (Nat → Int) × (Nat → Int) × Int)
    (hf : fX5_addRest v1 v2 v3 v4 pl_minute pl_drive pl_enough pl_endedBy pl_ownPrice pl_marks rd_runFrom rd_runTo rd_runDrive = some Ro) : Zc l D ca yX5_addRest cX5_addRest 6 none { frames := 1, cells := 0, slots := 0, locals := 26 } [.ref (aPl 0), .int (zI v1), .int (zI v2), .int (zI v3), .long (zJ v4)] [((aPl 0), .inr (5, [.ref (aLw 0), .ref (aRd 0), .ref (aDy 0), .ref (aPl 4), .ref (aPl 5), .ref (aPl 6), .ref (aPl 7), .ref (aPl 8), .int (zI pl_marks), .int (zI pl_mostTaken), .int (zI pl_mostExtended), .ref aLe])), ((aPl 4), .inl (ca 0, 62, .inl (zA pl_minute))), ((aPl 5), .inl (ca 0, 62, .inl (zA pl_drive))), ((aPl 6), .inl (ca 0, 62, .inl (zA pl_enough))), ((aPl 7), .inl (ca 0, 62, .inl (zA pl_endedBy))), ((aPl 8), .inl (ca 2, 62, .inr (.inl (zB pl_ownPrice)))), ((aRd 0), .inr (6, [.ref (aRd 1), .ref (aRd 2), .ref (aRd 3), .ref (aRd 4), .ref (aRd 5), .int (zI rd_acts), .int (zI rd_total), .int (zI rd_drive), .int (zI rd_runs)])), ((aRd 3), .inl (ca 0, 60, .inl (zA rd_runFrom))), ((aRd 4), .inl (ca 0, 60, .inl (zA rd_runTo))), ((aRd 5), .inl (ca 0, 60, .inl (zA rd_runDrive)))] (oiX5_addRest Ro) (oX5_addRest ca aPl aLw aRd aDy aLe pl_mostTaken pl_mostExtended rd_runFrom rd_runTo rd_runDrive rd_acts rd_total rd_drive rd_runs Ro) := by
  refine ctr_of (lv := [(0, .ref (aPl 0)), (1, .int (zI v1)), (2, .int (zI v2)), (3, .int (zI v3)), (4, .long (zJ v4))]) (by decide +kernel) (Nat.le_of_ble_eq_true rfl) rfl (fun Γ hl0 C E hnm => ?_)
  unfold fX5_addRest at hf
  refine g_aload_n (pc := 0) C 0 dX5_addRest_0 rfl rfl ?_
  refine g_aload_n (pc := 1) C 0 dX5_addRest_1 rfl rfl ?_
  refine g_get (pc := 2) C zf_X5_45 0 rfl rfl dX5_addRest_2 ?_
  refine g_get (pc := 5) C zf_X5_102 6 rfl rfl dX5_addRest_5 ?_
  refine g_iload_n (pc := 8) C 1 dX5_addRest_8 rfl rfl ?_
  refine g_iald (pc := 9) C (N := 60) 8 rfl rfl (Nat.le_of_ble_eq_true rfl) dX5_addRest_9 hf (fun hf => ?_)
  refine g_aload_n (pc := 10) C 0 dX5_addRest_10 rfl rfl ?_
  refine g_get (pc := 11) C zf_X5_45 0 rfl rfl dX5_addRest_11 ?_
  refine g_get (pc := 14) C zf_X5_105 6 rfl rfl dX5_addRest_14 ?_
  refine g_iload_n (pc := 17) C 1 dX5_addRest_17 rfl rfl ?_
  refine g_iald (pc := 18) C (N := 60) 9 rfl rfl (Nat.le_of_ble_eq_true rfl) dX5_addRest_18 hf (fun hf => ?_)
  refine g_aload_n (pc := 19) C 0 dX5_addRest_19 rfl rfl ?_
  refine g_get (pc := 20) C zf_X5_45 0 rfl rfl dX5_addRest_20 ?_
  refine g_get (pc := 23) C zf_X5_108 6 rfl rfl dX5_addRest_23 ?_
  refine g_iload_n (pc := 26) C 1 dX5_addRest_26 rfl rfl ?_
  refine g_iald (pc := 27) C (N := 60) 7 rfl rfl (Nat.le_of_ble_eq_true rfl) dX5_addRest_27 hf (fun hf => ?_)
  refine g_iload_n (pc := 28) C 2 dX5_addRest_28 rfl rfl ?_
  refine g_iadd (pc := 29) C dX5_addRest_29 ?_
  refine g_iload_n (pc := 30) C 3 dX5_addRest_30 rfl rfl ?_
  refine g_lload (pc := 31) C 4 dX5_addRest_31 rfl ?_
  obtain ⟨⟨pl_minute_33, pl_drive_33, pl_enough_33, pl_endedBy_33, pl_ownPrice_33, pl_marks_33⟩, hc_33, hf⟩ := Option.bind_eq_some_iff.mp hf
  dsimp only at hf
  refine g_callV (pc := 33) C hl0 (wr := [((aRd 0), .inr (6, [.ref (aRd 1), .ref (aRd 2), .ref (aRd 3), .ref (aRd 4), .ref (aRd 5), .int (zI rd_acts), .int (zI rd_total), .int (zI rd_drive), .int (zI rd_runs)])), ((aRd 3), .inl (ca 0, 60, .inl (zA rd_runFrom))), ((aRd 4), .inl (ca 0, 60, .inl (zA rd_runTo))), ((aRd 5), .inl (ca 0, 60, .inl (zA rd_runDrive)))]) (k' := 0) (n' := 0) (ws' := fun _ => [((aRd 0), .inr (6, [.ref (aRd 1), .ref (aRd 2), .ref (aRd 3), .ref (aRd 4), .ref (aRd 5), .int (zI rd_acts), .int (zI rd_total), .int (zI rd_drive), .int (zI rd_runs)])), ((aRd 3), .inl (ca 0, 60, .inl (zA rd_runFrom))), ((aRd 4), .inl (ca 0, 60, .inl (zA rd_runTo))), ((aRd 5), .inl (ca 0, 60, .inl (zA rd_runDrive))), ((aPl 0), .inr (5, [.ref (aLw 0), .ref (aRd 0), .ref (aDy 0), .ref (aPl 4), .ref (aPl 5), .ref (aPl 6), .ref (aPl 7), .ref (aPl 8), .int (zI pl_marks_33), .int (zI pl_mostTaken), .int (zI pl_mostExtended), .ref aLe])), ((aPl 4), .inl (ca 0, 62, .inl (zA pl_minute_33))), ((aPl 5), .inl (ca 0, 62, .inl (zA pl_drive_33))), ((aPl 6), .inl (ca 0, 62, .inl (zA pl_enough_33))), ((aPl 7), .inl (ca 0, 62, .inl (zA pl_endedBy_33))), ((aPl 8), .inl (ca 2, 62, .inr (.inl (zB pl_ownPrice_33))))]) (st' := []) (kX5_addMark l D ca aPl aLw aRd aDy aLe pl_minute pl_drive pl_enough pl_endedBy pl_ownPrice pl_marks pl_mostTaken pl_mostExtended (rd_runTo v1.toNat) (rd_runDrive v1.toNat) ((rd_runFrom v1.toNat) + v2) v3 v4 (pl_minute_33, pl_drive_33, pl_enough_33, pl_endedBy_33, pl_ownPrice_33, pl_marks_33) hc_33) wml_RX5_65 wim_X5_addMark wse_X5_addMark win_RX5 wco_X5_addMark (nA := 5) rfl (by decide +kernel)  ⟨(Nat.le_of_ble_eq_true rfl), (Nat.le_of_ble_eq_true rfl)⟩ (Nat.le_refl _) (Nat.le_refl _) rfl (Nat.le_of_ble_eq_true rfl) dX5_addRest_33 0 5 rfl rfl rfl [0, 1, 2, 3, 4, 5] [6, 7, 8, 9] rfl rfl rfl (by decide) (by decide) (by decide) rfl rfl (fun _ => rfl) rfl (fun _ => ?_)
  exact g_vret (pc := 36) C hf E rfl (fun _ => 0) [4, 5, 6, 7, 8, 9, 0, 1, 2, 3] (by decide) rfl rfl (Nat.le_refl _) (Nat.le_refl _) dX5_addRest_36
def oX5_lastEnd (ca : Nat → ClassId) (aPl : Nat → Nat) (aLw : Nat → Nat) (aRd : Nat → Nat) (aDy : Nat → Nat) (aLe : Nat) (pl_endedBy : Nat → Int) (pl_marks : Int) (pl_mostTaken : Int) (pl_mostExtended : Int) (Ro : Int) : (Nat → Nat) → va_W := fun _ => [((aPl 0), .inr (5, [.ref (aLw 0), .ref (aRd 0), .ref (aDy 0), .ref (aPl 4), .ref (aPl 5), .ref (aPl 6), .ref (aPl 7), .ref (aPl 8), .int (zI pl_marks), .int (zI pl_mostTaken), .int (zI pl_mostExtended), .ref aLe])), ((aPl 7), .inl (ca 0, 62, .inl (zA pl_endedBy)))]
def oiX5_lastEnd (Ro : Int) : Option Value := (some (.int (zI Ro)))
set_option maxRecDepth 100000 in
theorem kX5_lastEnd (l : Launch) (D : va_G) (ca : Nat → ClassId) (aPl : Nat → Nat) (aLw : Nat → Nat) (aRd : Nat → Nat) (aDy : Nat → Nat) (aLe : Nat) (pl_endedBy : Nat → Int) (pl_marks : Int) (pl_mostTaken : Int) (pl_mostExtended : Int) (v1 : Int) (Ro : Int)
    (hf : fX5_lastEnd v1 pl_endedBy pl_marks = some Ro) : Zc l D ca yX5_lastEnd cX5_lastEnd 3 (some .int) { frames := 1, cells := 0, slots := 0, locals := 13 } [.ref (aPl 0), .int (zI v1)] [((aPl 0), .inr (5, [.ref (aLw 0), .ref (aRd 0), .ref (aDy 0), .ref (aPl 4), .ref (aPl 5), .ref (aPl 6), .ref (aPl 7), .ref (aPl 8), .int (zI pl_marks), .int (zI pl_mostTaken), .int (zI pl_mostExtended), .ref aLe])), ((aPl 7), .inl (ca 0, 62, .inl (zA pl_endedBy)))] (oiX5_lastEnd Ro) (oX5_lastEnd ca aPl aLw aRd aDy aLe pl_endedBy pl_marks pl_mostTaken pl_mostExtended Ro) := by
  refine ctr_of (lv := [(0, .ref (aPl 0)), (1, .int (zI v1))]) (by decide +kernel) (Nat.le_of_ble_eq_true rfl) rfl (fun Γ hl0 C E hnm => ?_)
  have H30 : ∀ (v2 : Int), fX5_lastEnd_30 v2 pl_marks = some Ro → Zd D Γ 0 0 [((aPl 0), .inr (5, [.ref (aLw 0), .ref (aRd 0), .ref (aDy 0), .ref (aPl 4), .ref (aPl 5), .ref (aPl 6), .ref (aPl 7), .ref (aPl 8), .int (zI pl_marks), .int (zI pl_mostTaken), .int (zI pl_mostExtended), .ref aLe])), ((aPl 7), .inl (ca 0, 62, .inl (zA pl_endedBy)))] 30 [(0, .ref (aPl 0)), (2, .int (zI v2))] [] := by
    intro v2 hf
    unfold fX5_lastEnd_30 at hf
    refine g_iload_n (pc := 30) C 1 dX5_lastEnd_30 rfl rfl ?_
    refine g_aload_n (pc := 31) C 0 dX5_lastEnd_31 rfl rfl ?_
    refine g_get (pc := 32) C zf_X5_28 0 rfl rfl dX5_lastEnd_32 ?_
    refine g_iconst (pc := 35) C dX5_lastEnd_35 ?_
    refine g_isub (pc := 36) C dX5_lastEnd_36 ?_
    refine g_mmin (pc := 37) C wml_RX5_96 (Nat.le_of_ble_eq_true rfl) (Nat.le_of_ble_eq_true rfl) (Nat.zero_le _) (Nat.zero_le _) dX5_lastEnd_37 hf (fun hf => ?_)
    exact g_iret (pc := 40) C hf E rfl (fun _ => 0) [0, 1] (by decide) rfl rfl (Nat.le_refl _) (Nat.le_refl _) dX5_lastEnd_40
  have H4 : ∀  (n4 : Nat) (v2 : Int), zlp (fX5_lastEnd_4 pl_endedBy pl_marks) n4 v2 = some Ro → Zd D Γ 0 0 [((aPl 0), .inr (5, [.ref (aLw 0), .ref (aRd 0), .ref (aDy 0), .ref (aPl 4), .ref (aPl 5), .ref (aPl 6), .ref (aPl 7), .ref (aPl 8), .int (zI pl_marks), .int (zI pl_mostTaken), .int (zI pl_mostExtended), .ref aLe])), ((aPl 7), .inl (ca 0, 62, .inl (zA pl_endedBy)))] 4 [(0, .ref (aPl 0)), (2, .int (zI v2))] [] := by
    intro n4
    induction n4 with
    | zero =>
      intro v2 hf
      exact zno hf
    | succ n4 ih4 =>
      intro v2 hf
      rw [zlp_s] at hf
      unfold fX5_lastEnd_4 at hf
      refine g_iload_n (pc := 4) C 1 dX5_lastEnd_4 rfl rfl ?_
      refine g_aload_n (pc := 5) C 0 dX5_lastEnd_5 rfl rfl ?_
      refine g_get (pc := 6) C zf_X5_28 0 rfl rfl dX5_lastEnd_6 ?_
      refine g_iconst (pc := 9) C dX5_lastEnd_9 ?_
      refine g_isub (pc := 10) C dX5_lastEnd_10 ?_
      refine g_icmp_ge (pc := 11) C (tgt := 30) dX5_lastEnd_11 (by decide) hf (fun hf => ?_) (fun hf => ?_)
      · exact H30 _ hf
      · refine g_aload_n (pc := 14) C 0 dX5_lastEnd_14 rfl rfl ?_
        refine g_get (pc := 15) C zf_X5_21 0 rfl rfl dX5_lastEnd_15 ?_
        refine g_iload_n (pc := 18) C 1 dX5_lastEnd_18 rfl rfl ?_
        refine g_iald (pc := 19) C (N := 62) 1 rfl rfl (Nat.le_of_ble_eq_true rfl) dX5_lastEnd_19 hf (fun hf => ?_)
        refine g_iconst (pc := 20) C dX5_lastEnd_20 ?_
        refine g_icmp_ner (pc := 21) C (tgt := 30) dX5_lastEnd_21 (by decide) (by decide) hf (fun hf => ?_) (fun hf => ?_)
        · exact H30 _ hf
        · refine g_iinc (pc := 24) C 1 (lv' := [(2, .int (zI (v2 + 1))), (0, .ref (aPl 0))]) dX5_lastEnd_24 rfl (Nat.le_of_ble_eq_true rfl) rfl ?_
          refine g_goto (pc := 27) C (tgt := 4) dX5_lastEnd_27 (by decide) ?_
          refine g_sub [0, 1] [1, 0] (by decide) rfl rfl rfl ?_
          exact ih4 _ hf
  unfold fX5_lastEnd at hf
  refine g_iload_n (pc := 0) C 1 dX5_lastEnd_0 rfl rfl ?_
  refine g_iconst (pc := 1) C dX5_lastEnd_1 ?_
  refine g_iadd (pc := 2) C dX5_lastEnd_2 ?_
  refine g_istore_n (pc := 3) C (lv' := [(2, .int (zI (v1 + 1))), (0, .ref (aPl 0)), (1, .int (zI v1))]) dX5_lastEnd_3 rfl (Nat.le_of_ble_eq_true rfl) rfl ?_
  refine g_sub [0, 1] [1, 0] (by decide) rfl rfl rfl ?_
  exact H4 _ _ hf
def oX5_placeOf (ca : Nat → ClassId) (aPl : Nat → Nat) (aLw : Nat → Nat) (aRd : Nat → Nat) (aDy : Nat → Nat) (aLe : Nat) (pl_marks : Int) (pl_mostTaken : Int) (pl_mostExtended : Int) (Ro : Int) : (Nat → Nat) → va_W := fun _ => [((aPl 0), .inr (5, [.ref (aLw 0), .ref (aRd 0), .ref (aDy 0), .ref (aPl 4), .ref (aPl 5), .ref (aPl 6), .ref (aPl 7), .ref (aPl 8), .int (zI pl_marks), .int (zI pl_mostTaken), .int (zI pl_mostExtended), .ref aLe]))]
def oiX5_placeOf (Ro : Int) : Option Value := (some (.int (zI Ro)))
set_option maxRecDepth 100000 in
theorem kX5_placeOf (l : Launch) (D : va_G) (ca : Nat → ClassId) (aPl : Nat → Nat) (aLw : Nat → Nat) (aRd : Nat → Nat) (aDy : Nat → Nat) (aLe : Nat) (pl_marks : Int) (pl_mostTaken : Int) (pl_mostExtended : Int) (v1 : Int) (v2 : Int) (v3 : Int) (Ro : Int)
    (hf : fX5_placeOf v1 v2 v3 pl_mostTaken pl_mostExtended = some Ro) : Zc l D ca yX5_placeOf cX5_placeOf 4 (some .int) { frames := 0, cells := 0, slots := 0, locals := 0 } [.ref (aPl 0), .int (zI v1), .int (zI v2), .int (zI v3)] [((aPl 0), .inr (5, [.ref (aLw 0), .ref (aRd 0), .ref (aDy 0), .ref (aPl 4), .ref (aPl 5), .ref (aPl 6), .ref (aPl 7), .ref (aPl 8), .int (zI pl_marks), .int (zI pl_mostTaken), .int (zI pl_mostExtended), .ref aLe]))] (oiX5_placeOf Ro) (oX5_placeOf ca aPl aLw aRd aDy aLe pl_marks pl_mostTaken pl_mostExtended Ro) := by
  refine ctr_of (lv := [(0, .ref (aPl 0)), (1, .int (zI v1)), (2, .int (zI v2)), (3, .int (zI v3))]) (by decide +kernel) (Nat.le_of_ble_eq_true rfl) rfl (fun Γ hl0 C E hnm => ?_)
  unfold fX5_placeOf at hf
  refine g_iload_n (pc := 0) C 1 dX5_placeOf_0 rfl rfl ?_
  refine g_aload_n (pc := 1) C 0 dX5_placeOf_1 rfl rfl ?_
  refine g_get (pc := 2) C zf_X5_32 0 rfl rfl dX5_placeOf_2 ?_
  refine g_iconst (pc := 5) C dX5_placeOf_5 ?_
  refine g_iadd (pc := 6) C dX5_placeOf_6 ?_
  refine g_imul (pc := 7) C dX5_placeOf_7 ?_
  refine g_iload_n (pc := 8) C 2 dX5_placeOf_8 rfl rfl ?_
  refine g_iadd (pc := 9) C dX5_placeOf_9 ?_
  refine g_aload_n (pc := 10) C 0 dX5_placeOf_10 rfl rfl ?_
  refine g_get (pc := 11) C zf_X5_35 0 rfl rfl dX5_placeOf_11 ?_
  refine g_iconst (pc := 14) C dX5_placeOf_14 ?_
  refine g_iadd (pc := 15) C dX5_placeOf_15 ?_
  refine g_imul (pc := 16) C dX5_placeOf_16 ?_
  refine g_iload_n (pc := 17) C 3 dX5_placeOf_17 rfl rfl ?_
  refine g_iadd (pc := 18) C dX5_placeOf_18 ?_
  exact g_iret (pc := 19) C hf E rfl (fun _ => 0) [0] (by decide) rfl rfl (Nat.le_refl _) (Nat.le_refl _) dX5_placeOf_19
def oX5_leastFrom (ca : Nat → ClassId) (aPl : Nat → Nat) (aLw : Nat → Nat) (aRd : Nat → Nat) (aDy : Nat → Nat) (aLe : Nat) (pl_marks : Int) (pl_mostTaken : Int) (pl_mostExtended : Int) (pl_least : Nat → Int) (pl_L : Nat) (Ro : Int) : (Nat → Nat) → va_W := fun _ => [((aPl 0), .inr (5, [.ref (aLw 0), .ref (aRd 0), .ref (aDy 0), .ref (aPl 4), .ref (aPl 5), .ref (aPl 6), .ref (aPl 7), .ref (aPl 8), .int (zI pl_marks), .int (zI pl_mostTaken), .int (zI pl_mostExtended), .ref aLe])), (aLe, .inl (ca 2, pl_L, .inr (.inl (zB pl_least))))]
def oiX5_leastFrom (Ro : Int) : Option Value := (some (.long (zJ Ro)))
set_option maxRecDepth 100000 in
theorem kX5_leastFrom (l : Launch) (D : va_G) (ca : Nat → ClassId) (aPl : Nat → Nat) (aLw : Nat → Nat) (aRd : Nat → Nat) (aDy : Nat → Nat) (aLe : Nat) (pl_marks : Int) (pl_mostTaken : Int) (pl_mostExtended : Int) (pl_least : Nat → Int) (pl_L : Nat) (v1 : Int) (v2 : Int) (v3 : Int) (Ro : Int)
    (hf : fX5_leastFrom v1 v2 v3 pl_mostTaken pl_mostExtended pl_least pl_L = some Ro) : Zc l D ca yX5_leastFrom cX5_leastFrom 4 (some .long) { frames := 1, cells := 0, slots := 0, locals := 23 } [.ref (aPl 0), .int (zI v1), .int (zI v2), .int (zI v3)] [((aPl 0), .inr (5, [.ref (aLw 0), .ref (aRd 0), .ref (aDy 0), .ref (aPl 4), .ref (aPl 5), .ref (aPl 6), .ref (aPl 7), .ref (aPl 8), .int (zI pl_marks), .int (zI pl_mostTaken), .int (zI pl_mostExtended), .ref aLe])), (aLe, .inl (ca 2, pl_L, .inr (.inl (zB pl_least))))] (oiX5_leastFrom Ro) (oX5_leastFrom ca aPl aLw aRd aDy aLe pl_marks pl_mostTaken pl_mostExtended pl_least pl_L Ro) := by
  refine ctr_of (lv := [(0, .ref (aPl 0)), (1, .int (zI v1)), (2, .int (zI v2)), (3, .int (zI v3))]) (by decide +kernel) (Nat.le_of_ble_eq_true rfl) rfl (fun Γ hl0 C E hnm => ?_)
  have H8 : fX5_leastFrom_8 = some Ro → Zd D Γ 0 0 [((aPl 0), .inr (5, [.ref (aLw 0), .ref (aRd 0), .ref (aDy 0), .ref (aPl 4), .ref (aPl 5), .ref (aPl 6), .ref (aPl 7), .ref (aPl 8), .int (zI pl_marks), .int (zI pl_mostTaken), .int (zI pl_mostExtended), .ref aLe])), (aLe, .inl (ca 2, pl_L, .inr (.inl (zB pl_least))))] 8 [] [] := by
    intro  hf
    unfold fX5_leastFrom_8 at hf
    refine g_ldc2 (pc := 8) C (x := 1152921504606846976) dX5_leastFrom_8 wkl_RX5_118 (by decide) ?_
    refine g_goto (pc := 11) C (tgt := 26) dX5_leastFrom_11 (by decide) ?_
    exact g_lret (pc := 26) C hf E rfl (fun _ => 0) [0, 1] (by decide) rfl rfl (Nat.le_refl _) (Nat.le_refl _) dX5_leastFrom_26
  unfold fX5_leastFrom at hf
  refine g_iload_n (pc := 0) C 2 dX5_leastFrom_0 rfl rfl ?_
  refine g_if_lt (pc := 1) C (tgt := 8) dX5_leastFrom_1 (by decide) hf (fun hf => ?_) (fun hf => ?_)
  · refine g_sub [0, 1] [] (by decide) rfl rfl rfl ?_
    exact H8  hf
  · refine g_iload_n (pc := 4) C 3 dX5_leastFrom_4 rfl rfl ?_
    refine g_if_ge (pc := 5) C (tgt := 14) dX5_leastFrom_5 (by decide) hf (fun hf => ?_) (fun hf => ?_)
    · refine g_aload_n (pc := 14) C 0 dX5_leastFrom_14 rfl rfl ?_
      refine g_get (pc := 15) C zf_X5_38 0 rfl rfl dX5_leastFrom_15 ?_
      refine g_aload_n (pc := 18) C 0 dX5_leastFrom_18 rfl rfl ?_
      refine g_iload_n (pc := 19) C 1 dX5_leastFrom_19 rfl rfl ?_
      refine g_iload_n (pc := 20) C 2 dX5_leastFrom_20 rfl rfl ?_
      refine g_iload_n (pc := 21) C 3 dX5_leastFrom_21 rfl rfl ?_
      obtain ⟨r_22, hc_22, hf⟩ := Option.bind_eq_some_iff.mp hf
      refine g_callV (pc := 22) C hl0 (wr := [(aLe, .inl (ca 2, pl_L, .inr (.inl (zB pl_least))))]) (k' := 0) (n' := 0) (ws' := fun _ => [(aLe, .inl (ca 2, pl_L, .inr (.inl (zB pl_least)))), ((aPl 0), .inr (5, [.ref (aLw 0), .ref (aRd 0), .ref (aDy 0), .ref (aPl 4), .ref (aPl 5), .ref (aPl 6), .ref (aPl 7), .ref (aPl 8), .int (zI pl_marks), .int (zI pl_mostTaken), .int (zI pl_mostExtended), .ref aLe]))]) (st' := [.int (zI r_22), .ref aLe]) (kX5_placeOf l D ca aPl aLw aRd aDy aLe pl_marks pl_mostTaken pl_mostExtended v1 v2 v3 r_22 hc_22) wml_RX5_111 wim_X5_placeOf wse_X5_placeOf win_RX5 wco_X5_placeOf (nA := 3) rfl (by decide +kernel)  ⟨(Nat.le_of_ble_eq_true rfl), (Nat.le_of_ble_eq_true rfl)⟩ (Nat.le_refl _) (Nat.le_refl _) rfl (Nat.le_of_ble_eq_true rfl) dX5_leastFrom_22 0 5 rfl rfl rfl [0] [1] rfl rfl rfl (by decide) (by decide) (by decide) rfl rfl (fun _ => rfl) rfl (fun _ => ?_)
      refine g_lald (pc := 25) C (N := (pl_L : Int)) 0 rfl rfl dX5_leastFrom_25 hf (fun hf => ?_)
      exact g_lret (pc := 26) C hf E rfl (fun _ => 0) [1, 0] (by decide) rfl rfl (Nat.le_refl _) (Nat.le_refl _) dX5_leastFrom_26
    · refine g_sub [0, 1] [] (by decide) rfl rfl rfl ?_
      exact H8  hf
def oX5_takenLeft (ca : Nat → ClassId) (aPl : Nat → Nat) (aLw : Nat → Nat) (aRd : Nat → Nat) (aDy : Nat → Nat) (aLe : Nat) (pl_minute : Nat → Int) (pl_endedBy : Nat → Int) (pl_marks : Int) (pl_mostTaken : Int) (pl_mostExtended : Int) (Ro : Int) : (Nat → Nat) → va_W := fun _ => [((aPl 0), .inr (5, [.ref (aLw 0), .ref (aRd 0), .ref (aDy 0), .ref (aPl 4), .ref (aPl 5), .ref (aPl 6), .ref (aPl 7), .ref (aPl 8), .int (zI pl_marks), .int (zI pl_mostTaken), .int (zI pl_mostExtended), .ref aLe])), ((aPl 4), .inl (ca 0, 62, .inl (zA pl_minute))), ((aPl 7), .inl (ca 0, 62, .inl (zA pl_endedBy)))]
def oiX5_takenLeft (Ro : Int) : Option Value := (some (.int (zI Ro)))
set_option maxRecDepth 100000 in
theorem kX5_takenLeft (l : Launch) (D : va_G) (ca : Nat → ClassId) (aPl : Nat → Nat) (aLw : Nat → Nat) (aRd : Nat → Nat) (aDy : Nat → Nat) (aLe : Nat) (pl_minute : Nat → Int) (pl_endedBy : Nat → Int) (pl_marks : Int) (pl_mostTaken : Int) (pl_mostExtended : Int) (v1 : Int) (v2 : Int) (v3 : Int) (Ro : Int)
    (hf : fX5_takenLeft v1 v2 v3 pl_minute pl_endedBy pl_mostTaken = some Ro) : Zc l D ca yX5_takenLeft cX5_takenLeft 6 (some .int) { frames := 0, cells := 0, slots := 0, locals := 0 } [.ref (aPl 0), .int (zI v1), .int (zI v2), .int (zI v3)] [((aPl 0), .inr (5, [.ref (aLw 0), .ref (aRd 0), .ref (aDy 0), .ref (aPl 4), .ref (aPl 5), .ref (aPl 6), .ref (aPl 7), .ref (aPl 8), .int (zI pl_marks), .int (zI pl_mostTaken), .int (zI pl_mostExtended), .ref aLe])), ((aPl 4), .inl (ca 0, 62, .inl (zA pl_minute))), ((aPl 7), .inl (ca 0, 62, .inl (zA pl_endedBy)))] (oiX5_takenLeft Ro) (oX5_takenLeft ca aPl aLw aRd aDy aLe pl_minute pl_endedBy pl_marks pl_mostTaken pl_mostExtended Ro) := by
  refine ctr_of (lv := [(0, .ref (aPl 0)), (1, .int (zI v1)), (2, .int (zI v2)), (3, .int (zI v3))]) (by decide +kernel) (Nat.le_of_ble_eq_true rfl) rfl (fun Γ hl0 C E hnm => ?_)
  have H72 : ∀ (v5 : Int), fX5_takenLeft_72 v5 = some Ro → Zd D Γ 0 0 [((aPl 0), .inr (5, [.ref (aLw 0), .ref (aRd 0), .ref (aDy 0), .ref (aPl 4), .ref (aPl 5), .ref (aPl 6), .ref (aPl 7), .ref (aPl 8), .int (zI pl_marks), .int (zI pl_mostTaken), .int (zI pl_mostExtended), .ref aLe])), ((aPl 4), .inl (ca 0, 62, .inl (zA pl_minute))), ((aPl 7), .inl (ca 0, 62, .inl (zA pl_endedBy)))] 72 [(5, .int (zI v5))] [] := by
    intro v5 hf
    unfold fX5_takenLeft_72 at hf
    refine g_iload (pc := 72) C 0 dX5_takenLeft_72 rfl ?_
    refine g_goto (pc := 74) C (tgt := 81) dX5_takenLeft_74 (by decide) ?_
    exact g_iret (pc := 81) C hf E rfl (fun _ => 0) [0, 1, 2] (by decide) rfl rfl (Nat.le_refl _) (Nat.le_refl _) dX5_takenLeft_81
  have H52 : ∀ (v4 : Int) (v5 : Int), fX5_takenLeft_52 v2 v4 v5 pl_minute pl_mostTaken = some Ro → Zd D Γ 0 0 [((aPl 0), .inr (5, [.ref (aLw 0), .ref (aRd 0), .ref (aDy 0), .ref (aPl 4), .ref (aPl 5), .ref (aPl 6), .ref (aPl 7), .ref (aPl 8), .int (zI pl_marks), .int (zI pl_mostTaken), .int (zI pl_mostExtended), .ref aLe])), ((aPl 4), .inl (ca 0, 62, .inl (zA pl_minute))), ((aPl 7), .inl (ca 0, 62, .inl (zA pl_endedBy)))] 52 [(0, .ref (aPl 0)), (2, .int (zI v2)), (4, .int (zI v4)), (5, .int (zI v5))] [] := by
    intro v4 v5 hf
    unfold fX5_takenLeft_52 at hf
    refine g_iload (pc := 52) C 3 dX5_takenLeft_52 rfl ?_
    refine g_if_lt (pc := 54) C (tgt := 72) dX5_takenLeft_54 (by decide) hf (fun hf => ?_) (fun hf => ?_)
    · refine g_sub [0, 1, 2] [3] (by decide) rfl rfl rfl ?_
      exact H72 _ hf
    · refine g_iload (pc := 57) C 2 dX5_takenLeft_57 rfl ?_
      refine g_aload_n (pc := 59) C 0 dX5_takenLeft_59 rfl rfl ?_
      refine g_get (pc := 60) C zf_X5_11 0 rfl rfl dX5_takenLeft_60 ?_
      refine g_iload_n (pc := 63) C 1 dX5_takenLeft_63 rfl rfl ?_
      refine g_iald (pc := 64) C (N := 62) 1 rfl rfl (Nat.le_of_ble_eq_true rfl) dX5_takenLeft_64 hf (fun hf => ?_)
      refine g_sipush (pc := 65) C dX5_takenLeft_65 (by decide) ?_
      refine g_idiv (pc := 68) C dX5_takenLeft_68 (by decide) hf (fun hf => ?_)
      refine g_icmp_ne (pc := 69) C (tgt := 77) dX5_takenLeft_69 (by decide) hf (fun hf => ?_) (fun hf => ?_)
      · refine g_aload_n (pc := 77) C 0 dX5_takenLeft_77 rfl rfl ?_
        refine g_get (pc := 78) C zf_X5_32 0 rfl rfl dX5_takenLeft_78 ?_
        exact g_iret (pc := 81) C hf E rfl (fun _ => 0) [0, 1, 2] (by decide) rfl rfl (Nat.le_refl _) (Nat.le_refl _) dX5_takenLeft_81
      · refine g_sub [0, 1, 2] [3] (by decide) rfl rfl rfl ?_
        exact H72 _ hf
  have H37 : ∀ (v4 : Int) (s0 : Int), fX5_takenLeft_37 v2 v4 s0 pl_minute pl_endedBy pl_mostTaken = some Ro → Zd D Γ 0 0 [((aPl 0), .inr (5, [.ref (aLw 0), .ref (aRd 0), .ref (aDy 0), .ref (aPl 4), .ref (aPl 5), .ref (aPl 6), .ref (aPl 7), .ref (aPl 8), .int (zI pl_marks), .int (zI pl_mostTaken), .int (zI pl_mostExtended), .ref aLe])), ((aPl 4), .inl (ca 0, 62, .inl (zA pl_minute))), ((aPl 7), .inl (ca 0, 62, .inl (zA pl_endedBy)))] 37 [(0, .ref (aPl 0)), (2, .int (zI v2)), (4, .int (zI v4))] [.int (zI s0)] := by
    intro v4 s0 hf
    unfold fX5_takenLeft_37 at hf
    refine g_istore (pc := 37) C (lv' := [(5, .int (zI s0)), (0, .ref (aPl 0)), (2, .int (zI v2)), (4, .int (zI v4))]) dX5_takenLeft_37 (Nat.le_of_ble_eq_true rfl) rfl ?_
    refine g_aload_n (pc := 39) C 1 dX5_takenLeft_39 rfl rfl ?_
    refine g_get (pc := 40) C zf_X5_21 0 rfl rfl dX5_takenLeft_40 ?_
    refine g_iload_n (pc := 43) C 2 dX5_takenLeft_43 rfl rfl ?_
    refine g_iald (pc := 44) C (N := 62) 2 rfl rfl (Nat.le_of_ble_eq_true rfl) dX5_takenLeft_44 hf (fun hf => ?_)
    refine g_iconst (pc := 45) C dX5_takenLeft_45 ?_
    refine g_icmp_ner (pc := 46) C (tgt := 52) dX5_takenLeft_46 (by decide) (by decide) hf (fun hf => ?_) (fun hf => ?_)
    · refine g_sub [0, 1, 2] [1, 2, 3, 0] (by decide) rfl rfl rfl ?_
      exact H52 _ _ hf
    · refine g_iinc (pc := 49) C 0 (lv' := [(5, .int (zI (s0 + (-1)))), (0, .ref (aPl 0)), (2, .int (zI v2)), (4, .int (zI v4))]) dX5_takenLeft_49 rfl (Nat.le_of_ble_eq_true rfl) rfl ?_
      refine g_sub [0, 1, 2] [1, 2, 3, 0] (by decide) rfl rfl rfl ?_
      exact H52 _ _ hf
  unfold fX5_takenLeft at hf
  refine g_aload_n (pc := 0) C 0 dX5_takenLeft_0 rfl rfl ?_
  refine g_get (pc := 1) C zf_X5_11 0 rfl rfl dX5_takenLeft_1 ?_
  refine g_iload_n (pc := 4) C 2 dX5_takenLeft_4 rfl rfl ?_
  refine g_iald (pc := 5) C (N := 62) 1 rfl rfl (Nat.le_of_ble_eq_true rfl) dX5_takenLeft_5 hf (fun hf => ?_)
  refine g_iconst (pc := 6) C dX5_takenLeft_6 ?_
  refine g_isub (pc := 7) C dX5_takenLeft_7 ?_
  refine g_sipush (pc := 8) C dX5_takenLeft_8 (by decide) ?_
  refine g_idiv (pc := 11) C dX5_takenLeft_11 (by decide) hf (fun hf => ?_)
  refine g_istore (pc := 12) C (lv' := [(4, .int (zI (Int.tdiv ((pl_minute v2.toNat) - 1) 10080))), (0, .ref (aPl 0)), (1, .int (zI v1)), (2, .int (zI v2)), (3, .int (zI v3))]) dX5_takenLeft_12 (Nat.le_of_ble_eq_true rfl) rfl ?_
  refine g_iload (pc := 14) C 0 dX5_takenLeft_14 rfl ?_
  refine g_aload_n (pc := 16) C 1 dX5_takenLeft_16 rfl rfl ?_
  refine g_get (pc := 17) C zf_X5_11 0 rfl rfl dX5_takenLeft_17 ?_
  refine g_iload_n (pc := 20) C 2 dX5_takenLeft_20 rfl rfl ?_
  refine g_iald (pc := 21) C (N := 62) 1 rfl rfl (Nat.le_of_ble_eq_true rfl) dX5_takenLeft_21 hf (fun hf => ?_)
  refine g_sipush (pc := 22) C dX5_takenLeft_22 (by decide) ?_
  refine g_idiv (pc := 25) C dX5_takenLeft_25 (by decide) hf (fun hf => ?_)
  refine g_icmp_ne (pc := 26) C (tgt := 33) dX5_takenLeft_26 (by decide) hf (fun hf => ?_) (fun hf => ?_)
  · refine g_aload_n (pc := 33) C 1 dX5_takenLeft_33 rfl rfl ?_
    refine g_get (pc := 34) C zf_X5_32 0 rfl rfl dX5_takenLeft_34 ?_
    refine g_sub [0, 1, 2] [1, 3, 0] (by decide) rfl rfl rfl ?_
    exact H37 _ _ hf
  · refine g_iload_n (pc := 29) C 4 dX5_takenLeft_29 rfl rfl ?_
    refine g_goto (pc := 30) C (tgt := 37) dX5_takenLeft_30 (by decide) ?_
    refine g_sub [0, 1, 2] [1, 3, 0] (by decide) rfl rfl rfl ?_
    exact H37 _ _ hf
def oX5_extendedLeft (ca : Nat → ClassId) (aPl : Nat → Nat) (aLw : Nat → Nat) (aRd : Nat → Nat) (aDy : Nat → Nat) (aLe : Nat) (pl_minute : Nat → Int) (pl_marks : Int) (pl_mostTaken : Int) (pl_mostExtended : Int) (Ro : Int) : (Nat → Nat) → va_W := fun _ => [((aPl 0), .inr (5, [.ref (aLw 0), .ref (aRd 0), .ref (aDy 0), .ref (aPl 4), .ref (aPl 5), .ref (aPl 6), .ref (aPl 7), .ref (aPl 8), .int (zI pl_marks), .int (zI pl_mostTaken), .int (zI pl_mostExtended), .ref aLe])), ((aPl 4), .inl (ca 0, 62, .inl (zA pl_minute)))]
def oiX5_extendedLeft (Ro : Int) : Option Value := (some (.int (zI Ro)))
set_option maxRecDepth 100000 in
theorem kX5_extendedLeft (l : Launch) (D : va_G) (ca : Nat → ClassId) (aPl : Nat → Nat) (aLw : Nat → Nat) (aRd : Nat → Nat) (aDy : Nat → Nat) (aLe : Nat) (pl_minute : Nat → Int) (pl_marks : Int) (pl_mostTaken : Int) (pl_mostExtended : Int) (v1 : Int) (v2 : Int) (v3 : Int) (Ro : Int)
    (hf : fX5_extendedLeft v1 v2 v3 pl_minute pl_mostExtended = some Ro) : Zc l D ca yX5_extendedLeft cX5_extendedLeft 4 (some .int) { frames := 0, cells := 0, slots := 0, locals := 0 } [.ref (aPl 0), .int (zI v1), .int (zI v2), .int (zI v3)] [((aPl 0), .inr (5, [.ref (aLw 0), .ref (aRd 0), .ref (aDy 0), .ref (aPl 4), .ref (aPl 5), .ref (aPl 6), .ref (aPl 7), .ref (aPl 8), .int (zI pl_marks), .int (zI pl_mostTaken), .int (zI pl_mostExtended), .ref aLe])), ((aPl 4), .inl (ca 0, 62, .inl (zA pl_minute)))] (oiX5_extendedLeft Ro) (oX5_extendedLeft ca aPl aLw aRd aDy aLe pl_minute pl_marks pl_mostTaken pl_mostExtended Ro) := by
  refine ctr_of (lv := [(0, .ref (aPl 0)), (1, .int (zI v1)), (2, .int (zI v2)), (3, .int (zI v3))]) (by decide +kernel) (Nat.le_of_ble_eq_true rfl) rfl (fun Γ hl0 C E hnm => ?_)
  have H27 : fX5_extendedLeft_27 v3 = some Ro → Zd D Γ 0 0 [((aPl 0), .inr (5, [.ref (aLw 0), .ref (aRd 0), .ref (aDy 0), .ref (aPl 4), .ref (aPl 5), .ref (aPl 6), .ref (aPl 7), .ref (aPl 8), .int (zI pl_marks), .int (zI pl_mostTaken), .int (zI pl_mostExtended), .ref aLe])), ((aPl 4), .inl (ca 0, 62, .inl (zA pl_minute)))] 27 [(3, .int (zI v3))] [] := by
    intro  hf
    unfold fX5_extendedLeft_27 at hf
    refine g_iload_n (pc := 27) C 0 dX5_extendedLeft_27 rfl rfl ?_
    refine g_goto (pc := 28) C (tgt := 35) dX5_extendedLeft_28 (by decide) ?_
    exact g_iret (pc := 35) C hf E rfl (fun _ => 0) [0, 1] (by decide) rfl rfl (Nat.le_refl _) (Nat.le_refl _) dX5_extendedLeft_35
  unfold fX5_extendedLeft at hf
  refine g_iload_n (pc := 0) C 3 dX5_extendedLeft_0 rfl rfl ?_
  refine g_if_lt (pc := 1) C (tgt := 27) dX5_extendedLeft_1 (by decide) hf (fun hf => ?_) (fun hf => ?_)
  · refine g_sub [0, 1] [3] (by decide) rfl rfl rfl ?_
    exact H27  hf
  · refine g_aload_n (pc := 4) C 0 dX5_extendedLeft_4 rfl rfl ?_
    refine g_get (pc := 5) C zf_X5_11 0 rfl rfl dX5_extendedLeft_5 ?_
    refine g_iload_n (pc := 8) C 1 dX5_extendedLeft_8 rfl rfl ?_
    refine g_iald (pc := 9) C (N := 62) 1 rfl rfl (Nat.le_of_ble_eq_true rfl) dX5_extendedLeft_9 hf (fun hf => ?_)
    refine g_sipush (pc := 10) C dX5_extendedLeft_10 (by decide) ?_
    refine g_idiv (pc := 13) C dX5_extendedLeft_13 (by decide) hf (fun hf => ?_)
    refine g_aload_n (pc := 14) C 0 dX5_extendedLeft_14 rfl rfl ?_
    refine g_get (pc := 15) C zf_X5_11 0 rfl rfl dX5_extendedLeft_15 ?_
    refine g_iload_n (pc := 18) C 2 dX5_extendedLeft_18 rfl rfl ?_
    refine g_iald (pc := 19) C (N := 62) 1 rfl rfl (Nat.le_of_ble_eq_true rfl) dX5_extendedLeft_19 hf (fun hf => ?_)
    refine g_sipush (pc := 20) C dX5_extendedLeft_20 (by decide) ?_
    refine g_idiv (pc := 23) C dX5_extendedLeft_23 (by decide) hf (fun hf => ?_)
    refine g_icmp_ne (pc := 24) C (tgt := 31) dX5_extendedLeft_24 (by decide) hf (fun hf => ?_) (fun hf => ?_)
    · refine g_aload_n (pc := 31) C 0 dX5_extendedLeft_31 rfl rfl ?_
      refine g_get (pc := 32) C zf_X5_35 0 rfl rfl dX5_extendedLeft_32 ?_
      exact g_iret (pc := 35) C hf E rfl (fun _ => 0) [0, 1] (by decide) rfl rfl (Nat.le_refl _) (Nat.le_refl _) dX5_extendedLeft_35
    · refine g_sub [0, 1] [3] (by decide) rfl rfl rfl ?_
      exact H27  hf
def oX5_overOf (ca : Nat → ClassId) (aLw : Nat → Nat) (aPl : Nat → Nat) (aRd : Nat → Nat) (aDy : Nat → Nat) (aLe : Nat) (lw_numbers : Nat → Int) (pl_drive : Nat → Int) (pl_marks : Int) (pl_mostTaken : Int) (pl_mostExtended : Int) (Ro : Int) : (Nat → Nat) → va_W := fun _ => [((aLw 0), .inr (4, [.ref (aLw 1), .ref (aLw 2)])), ((aLw 1), .inl (ca 0, 11, .inl (zA lw_numbers))), ((aPl 0), .inr (5, [.ref (aLw 0), .ref (aRd 0), .ref (aDy 0), .ref (aPl 4), .ref (aPl 5), .ref (aPl 6), .ref (aPl 7), .ref (aPl 8), .int (zI pl_marks), .int (zI pl_mostTaken), .int (zI pl_mostExtended), .ref aLe])), ((aPl 5), .inl (ca 0, 62, .inl (zA pl_drive)))]
def oiX5_overOf (Ro : Int) : Option Value := (some (.int (zI Ro)))
set_option maxRecDepth 100000 in
theorem kX5_overOf (l : Launch) (D : va_G) (ca : Nat → ClassId) (aLw : Nat → Nat) (aPl : Nat → Nat) (aRd : Nat → Nat) (aDy : Nat → Nat) (aLe : Nat) (lw_numbers : Nat → Int) (pl_drive : Nat → Int) (pl_marks : Int) (pl_mostTaken : Int) (pl_mostExtended : Int) (v1 : Int) (v2 : Int) (v3 : Int) (Ro : Int)
    (hf : fX5_overOf v1 v2 v3 lw_numbers pl_drive = some Ro) : Zc l D ca yX5_overOf cX5_overOf 4 (some .int) { frames := 1, cells := 0, slots := 0, locals := 13 } [.ref (aPl 0), .int (zI v1), .int (zI v2), .int (zI v3)] [((aLw 0), .inr (4, [.ref (aLw 1), .ref (aLw 2)])), ((aLw 1), .inl (ca 0, 11, .inl (zA lw_numbers))), ((aPl 0), .inr (5, [.ref (aLw 0), .ref (aRd 0), .ref (aDy 0), .ref (aPl 4), .ref (aPl 5), .ref (aPl 6), .ref (aPl 7), .ref (aPl 8), .int (zI pl_marks), .int (zI pl_mostTaken), .int (zI pl_mostExtended), .ref aLe])), ((aPl 5), .inl (ca 0, 62, .inl (zA pl_drive)))] (oiX5_overOf Ro) (oX5_overOf ca aLw aPl aRd aDy aLe lw_numbers pl_drive pl_marks pl_mostTaken pl_mostExtended Ro) := by
  refine ctr_of (lv := [(0, .ref (aPl 0)), (1, .int (zI v1)), (2, .int (zI v2)), (3, .int (zI v3))]) (by decide +kernel) (Nat.le_of_ble_eq_true rfl) rfl (fun Γ hl0 C E hnm => ?_)
  have H31 : ∀ (s0 : Int) (s1 : Int) (s3 : Int), fX5_overOf_31 s0 s1 s3 lw_numbers = some Ro → Zd D Γ 0 0 [((aLw 0), .inr (4, [.ref (aLw 1), .ref (aLw 2)])), ((aLw 1), .inl (ca 0, 11, .inl (zA lw_numbers))), ((aPl 0), .inr (5, [.ref (aLw 0), .ref (aRd 0), .ref (aDy 0), .ref (aPl 4), .ref (aPl 5), .ref (aPl 6), .ref (aPl 7), .ref (aPl 8), .int (zI pl_marks), .int (zI pl_mostTaken), .int (zI pl_mostExtended), .ref aLe])), ((aPl 5), .inl (ca 0, 62, .inl (zA pl_drive)))] 31 [] [.int (zI s3), .ref (aLw 1), .int (zI s1), .int (zI s0)] := by
    intro s0 s1 s3 hf
    unfold fX5_overOf_31 at hf
    refine g_iald (pc := 31) C (N := 11) 1 rfl rfl (Nat.le_of_ble_eq_true rfl) dX5_overOf_31 hf (fun hf => ?_)
    refine g_isub (pc := 32) C dX5_overOf_32 ?_
    refine g_mmax (pc := 33) C wml_RX5_115 (Nat.le_of_ble_eq_true rfl) (Nat.le_of_ble_eq_true rfl) (Nat.zero_le _) (Nat.zero_le _) dX5_overOf_33 hf (fun hf => ?_)
    exact g_iret (pc := 36) C hf E rfl (fun _ => 0) [0, 1, 2, 3] (by decide) rfl rfl (Nat.le_refl _) (Nat.le_refl _) dX5_overOf_36
  unfold fX5_overOf at hf
  refine g_iconst (pc := 0) C dX5_overOf_0 ?_
  refine g_aload_n (pc := 1) C 0 dX5_overOf_1 rfl rfl ?_
  refine g_get (pc := 2) C zf_X5_15 2 rfl rfl dX5_overOf_2 ?_
  refine g_iload_n (pc := 5) C 2 dX5_overOf_5 rfl rfl ?_
  refine g_iald (pc := 6) C (N := 62) 3 rfl rfl (Nat.le_of_ble_eq_true rfl) dX5_overOf_6 hf (fun hf => ?_)
  refine g_aload_n (pc := 7) C 0 dX5_overOf_7 rfl rfl ?_
  refine g_get (pc := 8) C zf_X5_15 2 rfl rfl dX5_overOf_8 ?_
  refine g_iload_n (pc := 11) C 1 dX5_overOf_11 rfl rfl ?_
  refine g_iald (pc := 12) C (N := 62) 3 rfl rfl (Nat.le_of_ble_eq_true rfl) dX5_overOf_12 hf (fun hf => ?_)
  refine g_isub (pc := 13) C dX5_overOf_13 ?_
  refine g_aload_n (pc := 14) C 0 dX5_overOf_14 rfl rfl ?_
  refine g_get (pc := 15) C zf_X5_41 2 rfl rfl dX5_overOf_15 ?_
  refine g_get (pc := 18) C zf_X5_78 0 rfl rfl dX5_overOf_18 ?_
  refine g_iload_n (pc := 21) C 3 dX5_overOf_21 rfl rfl ?_
  refine g_iconst (pc := 22) C dX5_overOf_22 ?_
  refine g_icmp_ner (pc := 23) C (tgt := 30) dX5_overOf_23 (by decide) (by decide) hf (fun hf => ?_) (fun hf => ?_)
  · refine g_iconst (pc := 30) C dX5_overOf_30 ?_
    refine g_sub [0, 1, 2, 3] [] (by decide) rfl rfl rfl ?_
    exact H31 _ _ _ hf
  · refine g_iconst (pc := 26) C dX5_overOf_26 ?_
    refine g_goto (pc := 27) C (tgt := 31) dX5_overOf_27 (by decide) ?_
    refine g_sub [0, 1, 2, 3] [] (by decide) rfl rfl rfl ?_
    exact H31 _ _ _ hf
def oX5_lateOf (ca : Nat → ClassId) (aPl : Nat → Nat) (aLw : Nat → Nat) (aRd : Nat → Nat) (aDy : Nat → Nat) (aLe : Nat) (pl_minute : Nat → Int) (pl_enough : Nat → Int) (pl_marks : Int) (pl_mostTaken : Int) (pl_mostExtended : Int) (Ro : Int) : (Nat → Nat) → va_W := fun _ => [((aPl 0), .inr (5, [.ref (aLw 0), .ref (aRd 0), .ref (aDy 0), .ref (aPl 4), .ref (aPl 5), .ref (aPl 6), .ref (aPl 7), .ref (aPl 8), .int (zI pl_marks), .int (zI pl_mostTaken), .int (zI pl_mostExtended), .ref aLe])), ((aPl 4), .inl (ca 0, 62, .inl (zA pl_minute))), ((aPl 6), .inl (ca 0, 62, .inl (zA pl_enough)))]
def oiX5_lateOf (Ro : Int) : Option Value := (some (.int (zI Ro)))
set_option maxRecDepth 100000 in
theorem kX5_lateOf (l : Launch) (D : va_G) (ca : Nat → ClassId) (aPl : Nat → Nat) (aLw : Nat → Nat) (aRd : Nat → Nat) (aDy : Nat → Nat) (aLe : Nat) (pl_minute : Nat → Int) (pl_enough : Nat → Int) (pl_marks : Int) (pl_mostTaken : Int) (pl_mostExtended : Int) (v1 : Int) (v2 : Int) (Ro : Int)
    (hf : fX5_lateOf v1 v2 pl_minute pl_enough = some Ro) : Zc l D ca yX5_lateOf cX5_lateOf 3 (some .int) { frames := 1, cells := 0, slots := 0, locals := 13 } [.ref (aPl 0), .int (zI v1), .int (zI v2)] [((aPl 0), .inr (5, [.ref (aLw 0), .ref (aRd 0), .ref (aDy 0), .ref (aPl 4), .ref (aPl 5), .ref (aPl 6), .ref (aPl 7), .ref (aPl 8), .int (zI pl_marks), .int (zI pl_mostTaken), .int (zI pl_mostExtended), .ref aLe])), ((aPl 4), .inl (ca 0, 62, .inl (zA pl_minute))), ((aPl 6), .inl (ca 0, 62, .inl (zA pl_enough)))] (oiX5_lateOf Ro) (oX5_lateOf ca aPl aLw aRd aDy aLe pl_minute pl_enough pl_marks pl_mostTaken pl_mostExtended Ro) := by
  refine ctr_of (lv := [(0, .ref (aPl 0)), (1, .int (zI v1)), (2, .int (zI v2))]) (by decide +kernel) (Nat.le_of_ble_eq_true rfl) rfl (fun Γ hl0 C E hnm => ?_)
  unfold fX5_lateOf at hf
  refine g_iconst (pc := 0) C dX5_lateOf_0 ?_
  refine g_aload_n (pc := 1) C 0 dX5_lateOf_1 rfl rfl ?_
  refine g_get (pc := 2) C zf_X5_18 0 rfl rfl dX5_lateOf_2 ?_
  refine g_iload_n (pc := 5) C 2 dX5_lateOf_5 rfl rfl ?_
  refine g_iald (pc := 6) C (N := 62) 2 rfl rfl (Nat.le_of_ble_eq_true rfl) dX5_lateOf_6 hf (fun hf => ?_)
  refine g_aload_n (pc := 7) C 0 dX5_lateOf_7 rfl rfl ?_
  refine g_get (pc := 8) C zf_X5_11 0 rfl rfl dX5_lateOf_8 ?_
  refine g_iload_n (pc := 11) C 1 dX5_lateOf_11 rfl rfl ?_
  refine g_iald (pc := 12) C (N := 62) 1 rfl rfl (Nat.le_of_ble_eq_true rfl) dX5_lateOf_12 hf (fun hf => ?_)
  refine g_isub (pc := 13) C dX5_lateOf_13 ?_
  refine g_sipush (pc := 14) C dX5_lateOf_14 (by decide) ?_
  refine g_isub (pc := 17) C dX5_lateOf_17 ?_
  refine g_mmax (pc := 18) C wml_RX5_115 (Nat.le_of_ble_eq_true rfl) (Nat.le_of_ble_eq_true rfl) (Nat.zero_le _) (Nat.zero_le _) dX5_lateOf_18 hf (fun hf => ?_)
  exact g_iret (pc := 21) C hf E rfl (fun _ => 0) [0, 1, 2] (by decide) rfl rfl (Nat.le_refl _) (Nat.le_refl _) dX5_lateOf_21
def oX5_priceOf (ca : Nat → ClassId) (aLw : Nat → Nat) (aPl : Nat → Nat) (aRd : Nat → Nat) (aDy : Nat → Nat) (aLe : Nat) (lw_numbers : Nat → Int) (pl_minute : Nat → Int) (pl_drive : Nat → Int) (pl_enough : Nat → Int) (pl_ownPrice : Nat → Int) (pl_marks : Int) (pl_mostTaken : Int) (pl_mostExtended : Int) (Ro : Int) : (Nat → Nat) → va_W := fun _ => [((aLw 0), .inr (4, [.ref (aLw 1), .ref (aLw 2)])), ((aLw 1), .inl (ca 0, 11, .inl (zA lw_numbers))), ((aPl 0), .inr (5, [.ref (aLw 0), .ref (aRd 0), .ref (aDy 0), .ref (aPl 4), .ref (aPl 5), .ref (aPl 6), .ref (aPl 7), .ref (aPl 8), .int (zI pl_marks), .int (zI pl_mostTaken), .int (zI pl_mostExtended), .ref aLe])), ((aPl 4), .inl (ca 0, 62, .inl (zA pl_minute))), ((aPl 5), .inl (ca 0, 62, .inl (zA pl_drive))), ((aPl 6), .inl (ca 0, 62, .inl (zA pl_enough))), ((aPl 8), .inl (ca 2, 62, .inr (.inl (zB pl_ownPrice))))]
def oiX5_priceOf (Ro : Int) : Option Value := (some (.long (zJ Ro)))
set_option maxRecDepth 100000 in
theorem kX5_priceOf (l : Launch) (D : va_G) (ca : Nat → ClassId) (aLw : Nat → Nat) (aPl : Nat → Nat) (aRd : Nat → Nat) (aDy : Nat → Nat) (aLe : Nat) (lw_numbers : Nat → Int) (pl_minute : Nat → Int) (pl_drive : Nat → Int) (pl_enough : Nat → Int) (pl_ownPrice : Nat → Int) (pl_marks : Int) (pl_mostTaken : Int) (pl_mostExtended : Int) (v1 : Int) (v2 : Int) (v3 : Int) (Ro : Int)
    (hf : fX5_priceOf v1 v2 v3 lw_numbers pl_minute pl_drive pl_enough pl_ownPrice = some Ro) : Zc l D ca yX5_priceOf cX5_priceOf 6 (some .long) { frames := 2, cells := 0, slots := 0, locals := 36 } [.ref (aPl 0), .int (zI v1), .int (zI v2), .int (zI v3)] [((aLw 0), .inr (4, [.ref (aLw 1), .ref (aLw 2)])), ((aLw 1), .inl (ca 0, 11, .inl (zA lw_numbers))), ((aPl 0), .inr (5, [.ref (aLw 0), .ref (aRd 0), .ref (aDy 0), .ref (aPl 4), .ref (aPl 5), .ref (aPl 6), .ref (aPl 7), .ref (aPl 8), .int (zI pl_marks), .int (zI pl_mostTaken), .int (zI pl_mostExtended), .ref aLe])), ((aPl 4), .inl (ca 0, 62, .inl (zA pl_minute))), ((aPl 5), .inl (ca 0, 62, .inl (zA pl_drive))), ((aPl 6), .inl (ca 0, 62, .inl (zA pl_enough))), ((aPl 8), .inl (ca 2, 62, .inr (.inl (zB pl_ownPrice))))] (oiX5_priceOf Ro) (oX5_priceOf ca aLw aPl aRd aDy aLe lw_numbers pl_minute pl_drive pl_enough pl_ownPrice pl_marks pl_mostTaken pl_mostExtended Ro) := by
  refine ctr_of (lv := [(0, .ref (aPl 0)), (1, .int (zI v1)), (2, .int (zI v2)), (3, .int (zI v3))]) (by decide +kernel) (Nat.le_of_ble_eq_true rfl) rfl (fun Γ hl0 C E hnm => ?_)
  unfold fX5_priceOf at hf
  refine g_aload_n (pc := 0) C 0 dX5_priceOf_0 rfl rfl ?_
  refine g_iload_n (pc := 1) C 1 dX5_priceOf_1 rfl rfl ?_
  refine g_iload_n (pc := 2) C 2 dX5_priceOf_2 rfl rfl ?_
  refine g_iload_n (pc := 3) C 3 dX5_priceOf_3 rfl rfl ?_
  obtain ⟨r_4, hc_4, hf⟩ := Option.bind_eq_some_iff.mp hf
  refine g_callV (pc := 4) C hl0 (wr := [((aPl 4), .inl (ca 0, 62, .inl (zA pl_minute))), ((aPl 6), .inl (ca 0, 62, .inl (zA pl_enough))), ((aPl 8), .inl (ca 2, 62, .inr (.inl (zB pl_ownPrice))))]) (k' := 0) (n' := 0) (ws' := fun _ => [((aPl 4), .inl (ca 0, 62, .inl (zA pl_minute))), ((aPl 6), .inl (ca 0, 62, .inl (zA pl_enough))), ((aPl 8), .inl (ca 2, 62, .inr (.inl (zB pl_ownPrice)))), ((aLw 0), .inr (4, [.ref (aLw 1), .ref (aLw 2)])), ((aLw 1), .inl (ca 0, 11, .inl (zA lw_numbers))), ((aPl 0), .inr (5, [.ref (aLw 0), .ref (aRd 0), .ref (aDy 0), .ref (aPl 4), .ref (aPl 5), .ref (aPl 6), .ref (aPl 7), .ref (aPl 8), .int (zI pl_marks), .int (zI pl_mostTaken), .int (zI pl_mostExtended), .ref aLe])), ((aPl 5), .inl (ca 0, 62, .inl (zA pl_drive)))]) (st' := [.int (zI r_4)]) (kX5_overOf l D ca aLw aPl aRd aDy aLe lw_numbers pl_drive pl_marks pl_mostTaken pl_mostExtended v1 v2 v3 r_4 hc_4) wml_RX5_143 wim_X5_overOf wse_X5_overOf win_RX5 wco_X5_overOf (nA := 3) rfl (by decide +kernel)  ⟨(Nat.le_of_ble_eq_true rfl), (Nat.le_of_ble_eq_true rfl)⟩ (Nat.le_refl _) (Nat.le_refl _) rfl (Nat.le_of_ble_eq_true rfl) dX5_priceOf_4 2 5 rfl rfl rfl [0, 1, 2, 4] [3, 5, 6] rfl rfl rfl (by decide) (by decide) (by decide) rfl rfl (fun _ => rfl) rfl (fun _ => ?_)
  refine g_aload_n (pc := 7) C 0 dX5_priceOf_7 rfl rfl ?_
  refine g_iload_n (pc := 8) C 1 dX5_priceOf_8 rfl rfl ?_
  refine g_iload_n (pc := 9) C 2 dX5_priceOf_9 rfl rfl ?_
  obtain ⟨r_10, hc_10, hf⟩ := Option.bind_eq_some_iff.mp hf
  refine g_callV (pc := 10) C hl0 (wr := [((aPl 8), .inl (ca 2, 62, .inr (.inl (zB pl_ownPrice)))), ((aLw 0), .inr (4, [.ref (aLw 1), .ref (aLw 2)])), ((aLw 1), .inl (ca 0, 11, .inl (zA lw_numbers))), ((aPl 5), .inl (ca 0, 62, .inl (zA pl_drive)))]) (k' := 0) (n' := 0) (ws' := fun _ => [((aPl 8), .inl (ca 2, 62, .inr (.inl (zB pl_ownPrice)))), ((aLw 0), .inr (4, [.ref (aLw 1), .ref (aLw 2)])), ((aLw 1), .inl (ca 0, 11, .inl (zA lw_numbers))), ((aPl 5), .inl (ca 0, 62, .inl (zA pl_drive))), ((aPl 0), .inr (5, [.ref (aLw 0), .ref (aRd 0), .ref (aDy 0), .ref (aPl 4), .ref (aPl 5), .ref (aPl 6), .ref (aPl 7), .ref (aPl 8), .int (zI pl_marks), .int (zI pl_mostTaken), .int (zI pl_mostExtended), .ref aLe])), ((aPl 4), .inl (ca 0, 62, .inl (zA pl_minute))), ((aPl 6), .inl (ca 0, 62, .inl (zA pl_enough)))]) (st' := [.int (zI r_10), .int (zI r_4)]) (kX5_lateOf l D ca aPl aLw aRd aDy aLe pl_minute pl_enough pl_marks pl_mostTaken pl_mostExtended v1 v2 r_10 hc_10) wml_RX5_146 wim_X5_lateOf wse_X5_lateOf win_RX5 wco_X5_lateOf (nA := 2) rfl (by decide +kernel)  ⟨(Nat.le_of_ble_eq_true rfl), (Nat.le_of_ble_eq_true rfl)⟩ (Nat.le_refl _) (Nat.le_refl _) rfl (Nat.le_of_ble_eq_true rfl) dX5_priceOf_10 5 5 rfl rfl rfl [5, 0, 1] [2, 3, 4, 6] rfl rfl rfl (by decide) (by decide) (by decide) rfl rfl (fun _ => rfl) rfl (fun _ => ?_)
  refine g_iadd (pc := 13) C dX5_priceOf_13 ?_
  refine g_i2l (pc := 14) C dX5_priceOf_14 hf (fun hf => ?_)
  refine g_lstore (pc := 15) C (lv' := [(4, .long (zJ (r_4 + r_10))), (0, .ref (aPl 0)), (1, .int (zI v1)), (2, .int (zI v2)), (3, .int (zI v3))]) dX5_priceOf_15 (Nat.le_of_ble_eq_true rfl) rfl ?_
  refine g_lload (pc := 17) C 0 dX5_priceOf_17 rfl ?_
  refine g_ldc2 (pc := 19) C (x := 4194304) dX5_priceOf_19 wkl_RX5_149 (by decide) ?_
  refine g_lmul (pc := 22) C dX5_priceOf_22 ?_
  refine g_iload_n (pc := 23) C 4 dX5_priceOf_23 rfl rfl ?_
  refine g_i2l (pc := 24) C dX5_priceOf_24 hf (fun hf => ?_)
  refine g_ldc2 (pc := 25) C (x := 4096) dX5_priceOf_25 wkl_RX5_151 (by decide) ?_
  refine g_lmul (pc := 28) C dX5_priceOf_28 ?_
  refine g_ladd (pc := 29) C dX5_priceOf_29 ?_
  refine g_aload_n (pc := 30) C 1 dX5_priceOf_30 rfl rfl ?_
  refine g_get (pc := 31) C zf_X5_24 4 rfl rfl dX5_priceOf_31 ?_
  refine g_iload_n (pc := 34) C 3 dX5_priceOf_34 rfl rfl ?_
  refine g_lald (pc := 35) C (N := 62) 0 rfl rfl dX5_priceOf_35 hf (fun hf => ?_)
  refine g_ladd (pc := 36) C dX5_priceOf_36 ?_
  exact g_lret (pc := 37) C hf E rfl (fun _ => 0) [1, 2, 4, 5, 3, 6, 0] (by decide) rfl rfl (Nat.le_refl _) (Nat.le_refl _) dX5_priceOf_37
def oX5_choiceAt (ca : Nat → ClassId) (aLw : Nat → Nat) (aPl : Nat → Nat) (aRd : Nat → Nat) (aDy : Nat → Nat) (aLe : Nat) (lw_numbers : Nat → Int) (pl_minute : Nat → Int) (pl_drive : Nat → Int) (pl_enough : Nat → Int) (pl_endedBy : Nat → Int) (pl_ownPrice : Nat → Int) (pl_marks : Int) (pl_mostTaken : Int) (pl_mostExtended : Int) (pl_least : Nat → Int) (pl_L : Nat) (Ro : Int) : (Nat → Nat) → va_W := fun _ => [((aLw 0), .inr (4, [.ref (aLw 1), .ref (aLw 2)])), ((aLw 1), .inl (ca 0, 11, .inl (zA lw_numbers))), ((aPl 0), .inr (5, [.ref (aLw 0), .ref (aRd 0), .ref (aDy 0), .ref (aPl 4), .ref (aPl 5), .ref (aPl 6), .ref (aPl 7), .ref (aPl 8), .int (zI pl_marks), .int (zI pl_mostTaken), .int (zI pl_mostExtended), .ref aLe])), ((aPl 4), .inl (ca 0, 62, .inl (zA pl_minute))), ((aPl 5), .inl (ca 0, 62, .inl (zA pl_drive))), ((aPl 6), .inl (ca 0, 62, .inl (zA pl_enough))), ((aPl 7), .inl (ca 0, 62, .inl (zA pl_endedBy))), ((aPl 8), .inl (ca 2, 62, .inr (.inl (zB pl_ownPrice)))), (aLe, .inl (ca 2, pl_L, .inr (.inl (zB pl_least))))]
def oiX5_choiceAt (Ro : Int) : Option Value := (some (.int (zI Ro)))
set_option maxRecDepth 100000 in
theorem kX5_choiceAt (l : Launch) (D : va_G) (ca : Nat → ClassId) (aLw : Nat → Nat) (aPl : Nat → Nat) (aRd : Nat → Nat) (aDy : Nat → Nat) (aLe : Nat) (lw_numbers : Nat → Int) (pl_minute : Nat → Int) (pl_drive : Nat → Int) (pl_enough : Nat → Int) (pl_endedBy : Nat → Int) (pl_ownPrice : Nat → Int) (pl_marks : Int) (pl_mostTaken : Int) (pl_mostExtended : Int) (pl_least : Nat → Int) (pl_L : Nat) (v1 : Int) (v2 : Int) (v3 : Int) (Ro : Int)
    (hf : fX5_choiceAt v1 v2 v3 lw_numbers pl_minute pl_drive pl_enough pl_endedBy pl_ownPrice pl_marks pl_mostTaken pl_mostExtended pl_least pl_L = some Ro) : Zc l D ca yX5_choiceAt cX5_choiceAt 11 (some .int) { frames := 3, cells := 0, slots := 0, locals := 61 } [.ref (aPl 0), .int (zI v1), .int (zI v2), .int (zI v3)] [((aLw 0), .inr (4, [.ref (aLw 1), .ref (aLw 2)])), ((aLw 1), .inl (ca 0, 11, .inl (zA lw_numbers))), ((aPl 0), .inr (5, [.ref (aLw 0), .ref (aRd 0), .ref (aDy 0), .ref (aPl 4), .ref (aPl 5), .ref (aPl 6), .ref (aPl 7), .ref (aPl 8), .int (zI pl_marks), .int (zI pl_mostTaken), .int (zI pl_mostExtended), .ref aLe])), ((aPl 4), .inl (ca 0, 62, .inl (zA pl_minute))), ((aPl 5), .inl (ca 0, 62, .inl (zA pl_drive))), ((aPl 6), .inl (ca 0, 62, .inl (zA pl_enough))), ((aPl 7), .inl (ca 0, 62, .inl (zA pl_endedBy))), ((aPl 8), .inl (ca 2, 62, .inr (.inl (zB pl_ownPrice)))), (aLe, .inl (ca 2, pl_L, .inr (.inl (zB pl_least))))] (oiX5_choiceAt Ro) (oX5_choiceAt ca aLw aPl aRd aDy aLe lw_numbers pl_minute pl_drive pl_enough pl_endedBy pl_ownPrice pl_marks pl_mostTaken pl_mostExtended pl_least pl_L Ro) := by
  refine ctr_of (lv := [(0, .ref (aPl 0)), (1, .int (zI v1)), (2, .int (zI v2)), (3, .int (zI v3))]) (by decide +kernel) (Nat.le_of_ble_eq_true rfl) rfl (fun Γ hl0 C E hnm => ?_)
  have H21 : ∀ (v4 : Int) (v5 : Int) (n21 : Nat) (v7 : Int), zlp (fX5_choiceAt_21 v1 v2 v3 v4 v5 lw_numbers pl_minute pl_drive pl_enough pl_endedBy pl_ownPrice pl_mostTaken pl_mostExtended pl_least pl_L) n21 v7 = some Ro → Zd D Γ 0 0 [((aLw 0), .inr (4, [.ref (aLw 1), .ref (aLw 2)])), ((aLw 1), .inl (ca 0, 11, .inl (zA lw_numbers))), ((aPl 0), .inr (5, [.ref (aLw 0), .ref (aRd 0), .ref (aDy 0), .ref (aPl 4), .ref (aPl 5), .ref (aPl 6), .ref (aPl 7), .ref (aPl 8), .int (zI pl_marks), .int (zI pl_mostTaken), .int (zI pl_mostExtended), .ref aLe])), ((aPl 4), .inl (ca 0, 62, .inl (zA pl_minute))), ((aPl 5), .inl (ca 0, 62, .inl (zA pl_drive))), ((aPl 6), .inl (ca 0, 62, .inl (zA pl_enough))), ((aPl 7), .inl (ca 0, 62, .inl (zA pl_endedBy))), ((aPl 8), .inl (ca 2, 62, .inr (.inl (zB pl_ownPrice)))), (aLe, .inl (ca 2, pl_L, .inr (.inl (zB pl_least))))] 21 [(0, .ref (aPl 0)), (1, .int (zI v1)), (2, .int (zI v2)), (3, .int (zI v3)), (4, .int (zI v4)), (5, .long (zJ v5)), (7, .int (zI v7))] [] := by
    intro v4 v5
    intro n21
    induction n21 with
    | zero =>
      intro v7 hf
      exact zno hf
    | succ n21 ih21 =>
      have H41 : ∀ (v7 : Int) (v8 : Int) (n41 : Nat) (v9 : Int), zlp (fX5_choiceAt_41 (zlp (fX5_choiceAt_21 v1 v2 v3 v4 v5 lw_numbers pl_minute pl_drive pl_enough pl_endedBy pl_ownPrice pl_mostTaken pl_mostExtended pl_least pl_L) n21) v1 v3 v5 v7 v8 lw_numbers pl_minute pl_drive pl_enough pl_ownPrice pl_mostTaken pl_mostExtended pl_least pl_L) n41 v9 = some Ro → Zd D Γ 0 0 [((aLw 0), .inr (4, [.ref (aLw 1), .ref (aLw 2)])), ((aLw 1), .inl (ca 0, 11, .inl (zA lw_numbers))), ((aPl 0), .inr (5, [.ref (aLw 0), .ref (aRd 0), .ref (aDy 0), .ref (aPl 4), .ref (aPl 5), .ref (aPl 6), .ref (aPl 7), .ref (aPl 8), .int (zI pl_marks), .int (zI pl_mostTaken), .int (zI pl_mostExtended), .ref aLe])), ((aPl 4), .inl (ca 0, 62, .inl (zA pl_minute))), ((aPl 5), .inl (ca 0, 62, .inl (zA pl_drive))), ((aPl 6), .inl (ca 0, 62, .inl (zA pl_enough))), ((aPl 7), .inl (ca 0, 62, .inl (zA pl_endedBy))), ((aPl 8), .inl (ca 2, 62, .inr (.inl (zB pl_ownPrice)))), (aLe, .inl (ca 2, pl_L, .inr (.inl (zB pl_least))))] 41 [(0, .ref (aPl 0)), (1, .int (zI v1)), (2, .int (zI v2)), (3, .int (zI v3)), (4, .int (zI v4)), (5, .long (zJ v5)), (7, .int (zI v7)), (8, .int (zI v8)), (9, .int (zI v9))] [] := by
        intro v7 v8
        intro n41
        induction n41 with
        | zero =>
          intro v9 hf
          exact zno hf
        | succ n41 ih41 =>
          intro v9 hf
          rw [zlp_s] at hf
          unfold fX5_choiceAt_41 at hf
          refine g_iload (pc := 41) C 8 dX5_choiceAt_41 rfl ?_
          refine g_if_lt (pc := 43) C (tgt := 99) dX5_choiceAt_43 (by decide) hf (fun hf => ?_) (fun hf => ?_)
          · refine g_iinc (pc := 99) C 6 (lv' := [(7, .int (zI (v7 + 1))), (0, .ref (aPl 0)), (1, .int (zI v1)), (2, .int (zI v2)), (3, .int (zI v3)), (4, .int (zI v4)), (5, .long (zJ v5)), (8, .int (zI v8)), (9, .int (zI v9))]) dX5_choiceAt_99 rfl (Nat.le_of_ble_eq_true rfl) rfl ?_
            refine g_goto (pc := 102) C (tgt := 21) dX5_choiceAt_102 (by decide) ?_
            refine g_sub [0, 1, 2, 3, 4, 5, 6, 7, 8] [1, 2, 3, 4, 5, 6, 0] (by decide) rfl rfl rfl ?_
            exact ih21 _ hf
          · refine g_aload_n (pc := 46) C 0 dX5_choiceAt_46 rfl rfl ?_
            refine g_iload_n (pc := 47) C 1 dX5_choiceAt_47 rfl rfl ?_
            refine g_iload (pc := 48) C 6 dX5_choiceAt_48 rfl ?_
            refine g_iload_n (pc := 50) C 3 dX5_choiceAt_50 rfl rfl ?_
            refine g_iload (pc := 51) C 8 dX5_choiceAt_51 rfl ?_
            refine g_isub (pc := 53) C dX5_choiceAt_53 ?_
            obtain ⟨r_54, hc_54, hf⟩ := Option.bind_eq_some_iff.mp hf
            refine g_callV (pc := 54) C hl0 (wr := [((aLw 0), .inr (4, [.ref (aLw 1), .ref (aLw 2)])), ((aLw 1), .inl (ca 0, 11, .inl (zA lw_numbers))), ((aPl 5), .inl (ca 0, 62, .inl (zA pl_drive))), ((aPl 6), .inl (ca 0, 62, .inl (zA pl_enough))), ((aPl 7), .inl (ca 0, 62, .inl (zA pl_endedBy))), ((aPl 8), .inl (ca 2, 62, .inr (.inl (zB pl_ownPrice)))), (aLe, .inl (ca 2, pl_L, .inr (.inl (zB pl_least))))]) (k' := 0) (n' := 0) (ws' := fun _ => [((aLw 0), .inr (4, [.ref (aLw 1), .ref (aLw 2)])), ((aLw 1), .inl (ca 0, 11, .inl (zA lw_numbers))), ((aPl 5), .inl (ca 0, 62, .inl (zA pl_drive))), ((aPl 6), .inl (ca 0, 62, .inl (zA pl_enough))), ((aPl 7), .inl (ca 0, 62, .inl (zA pl_endedBy))), ((aPl 8), .inl (ca 2, 62, .inr (.inl (zB pl_ownPrice)))), (aLe, .inl (ca 2, pl_L, .inr (.inl (zB pl_least)))), ((aPl 0), .inr (5, [.ref (aLw 0), .ref (aRd 0), .ref (aDy 0), .ref (aPl 4), .ref (aPl 5), .ref (aPl 6), .ref (aPl 7), .ref (aPl 8), .int (zI pl_marks), .int (zI pl_mostTaken), .int (zI pl_mostExtended), .ref aLe])), ((aPl 4), .inl (ca 0, 62, .inl (zA pl_minute)))]) (st' := [.int (zI r_54)]) (kX5_extendedLeft l D ca aPl aLw aRd aDy aLe pl_minute pl_marks pl_mostTaken pl_mostExtended v1 v7 (v3 - v9) r_54 hc_54) wml_RX5_134 wim_X5_extendedLeft wse_X5_extendedLeft win_RX5 wco_X5_extendedLeft (nA := 3) rfl (by decide +kernel)  ⟨(Nat.le_of_ble_eq_true rfl), (Nat.le_of_ble_eq_true rfl)⟩ (Nat.le_refl _) (Nat.le_refl _) rfl (Nat.le_of_ble_eq_true rfl) dX5_choiceAt_54 2 5 rfl rfl rfl [2, 3] [0, 1, 4, 5, 6, 7, 8] rfl rfl rfl (by decide) (by decide) (by decide) rfl rfl (fun _ => rfl) rfl (fun _ => ?_)
            refine g_istore (pc := 57) C (lv' := [(10, .int (zI r_54)), (0, .ref (aPl 0)), (1, .int (zI v1)), (2, .int (zI v2)), (3, .int (zI v3)), (4, .int (zI v4)), (5, .long (zJ v5)), (7, .int (zI v7)), (8, .int (zI v8)), (9, .int (zI v9))]) dX5_choiceAt_57 (Nat.le_of_ble_eq_true rfl) rfl ?_
            refine g_aload_n (pc := 59) C 1 dX5_choiceAt_59 rfl rfl ?_
            refine g_iload_n (pc := 60) C 2 dX5_choiceAt_60 rfl rfl ?_
            refine g_iload (pc := 61) C 7 dX5_choiceAt_61 rfl ?_
            refine g_iload (pc := 63) C 9 dX5_choiceAt_63 rfl ?_
            obtain ⟨r_65, hc_65, hf⟩ := Option.bind_eq_some_iff.mp hf
            refine g_callV (pc := 65) C hl0 (wr := [((aPl 7), .inl (ca 0, 62, .inl (zA pl_endedBy))), (aLe, .inl (ca 2, pl_L, .inr (.inl (zB pl_least))))]) (k' := 0) (n' := 0) (ws' := fun _ => [((aPl 7), .inl (ca 0, 62, .inl (zA pl_endedBy))), (aLe, .inl (ca 2, pl_L, .inr (.inl (zB pl_least)))), ((aLw 0), .inr (4, [.ref (aLw 1), .ref (aLw 2)])), ((aLw 1), .inl (ca 0, 11, .inl (zA lw_numbers))), ((aPl 0), .inr (5, [.ref (aLw 0), .ref (aRd 0), .ref (aDy 0), .ref (aPl 4), .ref (aPl 5), .ref (aPl 6), .ref (aPl 7), .ref (aPl 8), .int (zI pl_marks), .int (zI pl_mostTaken), .int (zI pl_mostExtended), .ref aLe])), ((aPl 4), .inl (ca 0, 62, .inl (zA pl_minute))), ((aPl 5), .inl (ca 0, 62, .inl (zA pl_drive))), ((aPl 6), .inl (ca 0, 62, .inl (zA pl_enough))), ((aPl 8), .inl (ca 2, 62, .inr (.inl (zB pl_ownPrice))))]) (st' := [.long (zJ r_65)]) (kX5_priceOf l D ca aLw aPl aRd aDy aLe lw_numbers pl_minute pl_drive pl_enough pl_ownPrice pl_marks pl_mostTaken pl_mostExtended v1 v7 v9 r_65 hc_65) wml_RX5_127 wim_X5_priceOf wse_X5_priceOf win_RX5 wco_X5_priceOf (nA := 3) rfl (by decide +kernel)  ⟨(Nat.le_of_ble_eq_true rfl), (Nat.le_of_ble_eq_true rfl)⟩ (Nat.le_refl _) (Nat.le_refl _) rfl (Nat.le_of_ble_eq_true rfl) dX5_choiceAt_65 7 5 rfl rfl rfl [0, 1, 7, 8, 2, 3, 5] [4, 6] rfl rfl rfl (by decide) (by decide) (by decide) rfl rfl (fun _ => rfl) rfl (fun _ => ?_)
            refine g_aload_n (pc := 68) C 1 dX5_choiceAt_68 rfl rfl ?_
            refine g_iload (pc := 69) C 7 dX5_choiceAt_69 rfl ?_
            refine g_iload (pc := 71) C 8 dX5_choiceAt_71 rfl ?_
            refine g_iload (pc := 73) C 0 dX5_choiceAt_73 rfl ?_
            obtain ⟨r_75, hc_75, hf⟩ := Option.bind_eq_some_iff.mp hf
            refine g_callV (pc := 75) C hl0 (wr := [((aPl 7), .inl (ca 0, 62, .inl (zA pl_endedBy))), ((aLw 0), .inr (4, [.ref (aLw 1), .ref (aLw 2)])), ((aLw 1), .inl (ca 0, 11, .inl (zA lw_numbers))), ((aPl 4), .inl (ca 0, 62, .inl (zA pl_minute))), ((aPl 5), .inl (ca 0, 62, .inl (zA pl_drive))), ((aPl 6), .inl (ca 0, 62, .inl (zA pl_enough))), ((aPl 8), .inl (ca 2, 62, .inr (.inl (zB pl_ownPrice))))]) (k' := 0) (n' := 0) (ws' := fun _ => [((aPl 7), .inl (ca 0, 62, .inl (zA pl_endedBy))), ((aLw 0), .inr (4, [.ref (aLw 1), .ref (aLw 2)])), ((aLw 1), .inl (ca 0, 11, .inl (zA lw_numbers))), ((aPl 4), .inl (ca 0, 62, .inl (zA pl_minute))), ((aPl 5), .inl (ca 0, 62, .inl (zA pl_drive))), ((aPl 6), .inl (ca 0, 62, .inl (zA pl_enough))), ((aPl 8), .inl (ca 2, 62, .inr (.inl (zB pl_ownPrice)))), ((aPl 0), .inr (5, [.ref (aLw 0), .ref (aRd 0), .ref (aDy 0), .ref (aPl 4), .ref (aPl 5), .ref (aPl 6), .ref (aPl 7), .ref (aPl 8), .int (zI pl_marks), .int (zI pl_mostTaken), .int (zI pl_mostExtended), .ref aLe])), (aLe, .inl (ca 2, pl_L, .inr (.inl (zB pl_least))))]) (st' := [.long (zJ r_75), .long (zJ r_65)]) (kX5_leastFrom l D ca aPl aLw aRd aDy aLe pl_marks pl_mostTaken pl_mostExtended pl_least pl_L v7 v8 r_54 r_75 hc_75) wml_RX5_137 wim_X5_leastFrom wse_X5_leastFrom win_RX5 wco_X5_leastFrom (nA := 3) rfl (by decide +kernel)  ⟨(Nat.le_of_ble_eq_true rfl), (Nat.le_of_ble_eq_true rfl)⟩ (Nat.le_refl _) (Nat.le_refl _) rfl (Nat.le_of_ble_eq_true rfl) dX5_choiceAt_75 4 5 rfl rfl rfl [4, 1] [0, 2, 3, 5, 6, 7, 8] rfl rfl rfl (by decide) (by decide) (by decide) rfl rfl (fun _ => rfl) rfl (fun _ => ?_)
            refine g_ladd (pc := 78) C dX5_choiceAt_78 ?_
            refine g_lload (pc := 79) C 6 dX5_choiceAt_79 rfl ?_
            refine g_lcmp (pc := 81) C dX5_choiceAt_81 hf (fun hf => ?_)
            refine g_if_ne (pc := 82) C (tgt := 93) dX5_choiceAt_82 (by decide) hf (fun hf => ?_) (fun hf => ?_)
            · refine g_iinc (pc := 93) C 9 (lv' := [(9, .int (zI (v9 + (-1)))), (10, .int (zI r_54)), (0, .ref (aPl 0)), (1, .int (zI v1)), (2, .int (zI v2)), (3, .int (zI v3)), (4, .int (zI v4)), (5, .long (zJ v5)), (7, .int (zI v7)), (8, .int (zI v8))]) dX5_choiceAt_93 rfl (Nat.le_of_ble_eq_true rfl) rfl ?_
              refine g_goto (pc := 96) C (tgt := 41) dX5_choiceAt_96 (by decide) ?_
              refine g_sub [1, 2, 7, 3, 4, 5, 0, 6, 8] [2, 3, 4, 5, 6, 7, 8, 9, 0] (by decide) rfl rfl rfl ?_
              exact ih41 _ hf
            · refine g_iconst (pc := 85) C dX5_choiceAt_85 ?_
              refine g_iload (pc := 86) C 7 dX5_choiceAt_86 rfl ?_
              refine g_imul (pc := 88) C dX5_choiceAt_88 ?_
              refine g_iload (pc := 89) C 9 dX5_choiceAt_89 rfl ?_
              refine g_iadd (pc := 91) C dX5_choiceAt_91 ?_
              exact g_iret (pc := 92) C hf E rfl (fun _ => 0) [1, 2, 7, 3, 4, 5, 0, 6, 8] (by decide) rfl rfl (Nat.le_refl _) (Nat.le_refl _) dX5_choiceAt_92
      intro v7 hf
      rw [zlp_s] at hf
      unfold fX5_choiceAt_21 at hf
      refine g_iload (pc := 21) C 6 dX5_choiceAt_21 rfl ?_
      refine g_iload (pc := 23) C 4 dX5_choiceAt_23 rfl ?_
      refine g_icmp_gt (pc := 25) C (tgt := 105) dX5_choiceAt_25 (by decide) hf (fun hf => ?_) (fun hf => ?_)
      · refine g_iconst (pc := 105) C dX5_choiceAt_105 ?_
        refine g_iload (pc := 106) C 4 dX5_choiceAt_106 rfl ?_
        refine g_imul (pc := 108) C dX5_choiceAt_108 ?_
        exact g_iret (pc := 109) C hf E rfl (fun _ => 0) [0, 1, 2, 3, 4, 5, 6, 7, 8] (by decide) rfl rfl (Nat.le_refl _) (Nat.le_refl _) dX5_choiceAt_109
      · refine g_aload_n (pc := 28) C 0 dX5_choiceAt_28 rfl rfl ?_
        refine g_iload_n (pc := 29) C 1 dX5_choiceAt_29 rfl rfl ?_
        refine g_iload (pc := 30) C 6 dX5_choiceAt_30 rfl ?_
        refine g_iload_n (pc := 32) C 2 dX5_choiceAt_32 rfl rfl ?_
        obtain ⟨r_33, hc_33, hf⟩ := Option.bind_eq_some_iff.mp hf
        refine g_callV (pc := 33) C hl0 (wr := [((aLw 0), .inr (4, [.ref (aLw 1), .ref (aLw 2)])), ((aLw 1), .inl (ca 0, 11, .inl (zA lw_numbers))), ((aPl 5), .inl (ca 0, 62, .inl (zA pl_drive))), ((aPl 6), .inl (ca 0, 62, .inl (zA pl_enough))), ((aPl 8), .inl (ca 2, 62, .inr (.inl (zB pl_ownPrice)))), (aLe, .inl (ca 2, pl_L, .inr (.inl (zB pl_least))))]) (k' := 0) (n' := 0) (ws' := fun _ => [((aLw 0), .inr (4, [.ref (aLw 1), .ref (aLw 2)])), ((aLw 1), .inl (ca 0, 11, .inl (zA lw_numbers))), ((aPl 5), .inl (ca 0, 62, .inl (zA pl_drive))), ((aPl 6), .inl (ca 0, 62, .inl (zA pl_enough))), ((aPl 8), .inl (ca 2, 62, .inr (.inl (zB pl_ownPrice)))), (aLe, .inl (ca 2, pl_L, .inr (.inl (zB pl_least)))), ((aPl 0), .inr (5, [.ref (aLw 0), .ref (aRd 0), .ref (aDy 0), .ref (aPl 4), .ref (aPl 5), .ref (aPl 6), .ref (aPl 7), .ref (aPl 8), .int (zI pl_marks), .int (zI pl_mostTaken), .int (zI pl_mostExtended), .ref aLe])), ((aPl 4), .inl (ca 0, 62, .inl (zA pl_minute))), ((aPl 7), .inl (ca 0, 62, .inl (zA pl_endedBy)))]) (st' := [.int (zI r_33)]) (kX5_takenLeft l D ca aPl aLw aRd aDy aLe pl_minute pl_endedBy pl_marks pl_mostTaken pl_mostExtended v1 v7 v2 r_33 hc_33) wml_RX5_131 wim_X5_takenLeft wse_X5_takenLeft win_RX5 wco_X5_takenLeft (nA := 3) rfl (by decide +kernel)  ⟨(Nat.le_of_ble_eq_true rfl), (Nat.le_of_ble_eq_true rfl)⟩ (Nat.le_refl _) (Nat.le_refl _) rfl (Nat.le_of_ble_eq_true rfl) dX5_choiceAt_33 2 5 rfl rfl rfl [2, 3, 6] [0, 1, 4, 5, 7, 8] rfl rfl rfl (by decide) (by decide) (by decide) rfl rfl (fun _ => rfl) rfl (fun _ => ?_)
        refine g_istore (pc := 36) C (lv' := [(8, .int (zI r_33)), (0, .ref (aPl 0)), (1, .int (zI v1)), (2, .int (zI v2)), (3, .int (zI v3)), (4, .int (zI v4)), (5, .long (zJ v5)), (7, .int (zI v7))]) dX5_choiceAt_36 (Nat.le_of_ble_eq_true rfl) rfl ?_
        refine g_iconst (pc := 38) C dX5_choiceAt_38 ?_
        refine g_istore (pc := 39) C (lv' := [(9, .int (zI 1)), (8, .int (zI r_33)), (0, .ref (aPl 0)), (1, .int (zI v1)), (2, .int (zI v2)), (3, .int (zI v3)), (4, .int (zI v4)), (5, .long (zJ v5)), (7, .int (zI v7))]) dX5_choiceAt_39 (Nat.le_of_ble_eq_true rfl) rfl ?_
        refine g_sub [0, 1, 6, 7, 2, 3, 8, 4, 5] [2, 3, 4, 5, 6, 7, 8, 1, 0] (by decide) rfl rfl rfl ?_
        exact H41 _ _ _ _ hf
  unfold fX5_choiceAt at hf
  refine g_aload_n (pc := 0) C 0 dX5_choiceAt_0 rfl rfl ?_
  refine g_iload_n (pc := 1) C 1 dX5_choiceAt_1 rfl rfl ?_
  obtain ⟨r_2, hc_2, hf⟩ := Option.bind_eq_some_iff.mp hf
  refine g_callV (pc := 2) C hl0 (wr := [((aLw 0), .inr (4, [.ref (aLw 1), .ref (aLw 2)])), ((aLw 1), .inl (ca 0, 11, .inl (zA lw_numbers))), ((aPl 4), .inl (ca 0, 62, .inl (zA pl_minute))), ((aPl 5), .inl (ca 0, 62, .inl (zA pl_drive))), ((aPl 6), .inl (ca 0, 62, .inl (zA pl_enough))), ((aPl 8), .inl (ca 2, 62, .inr (.inl (zB pl_ownPrice)))), (aLe, .inl (ca 2, pl_L, .inr (.inl (zB pl_least))))]) (k' := 0) (n' := 0) (ws' := fun _ => [((aLw 0), .inr (4, [.ref (aLw 1), .ref (aLw 2)])), ((aLw 1), .inl (ca 0, 11, .inl (zA lw_numbers))), ((aPl 4), .inl (ca 0, 62, .inl (zA pl_minute))), ((aPl 5), .inl (ca 0, 62, .inl (zA pl_drive))), ((aPl 6), .inl (ca 0, 62, .inl (zA pl_enough))), ((aPl 8), .inl (ca 2, 62, .inr (.inl (zB pl_ownPrice)))), (aLe, .inl (ca 2, pl_L, .inr (.inl (zB pl_least)))), ((aPl 0), .inr (5, [.ref (aLw 0), .ref (aRd 0), .ref (aDy 0), .ref (aPl 4), .ref (aPl 5), .ref (aPl 6), .ref (aPl 7), .ref (aPl 8), .int (zI pl_marks), .int (zI pl_mostTaken), .int (zI pl_mostExtended), .ref aLe])), ((aPl 7), .inl (ca 0, 62, .inl (zA pl_endedBy)))]) (st' := [.int (zI r_2)]) (kX5_lastEnd l D ca aPl aLw aRd aDy aLe pl_endedBy pl_marks pl_mostTaken pl_mostExtended v1 r_2 hc_2) wml_RX5_120 wim_X5_lastEnd wse_X5_lastEnd win_RX5 wco_X5_lastEnd (nA := 1) rfl (by decide +kernel)  ⟨(Nat.le_of_ble_eq_true rfl), (Nat.le_of_ble_eq_true rfl)⟩ (Nat.le_refl _) (Nat.le_refl _) rfl (Nat.le_of_ble_eq_true rfl) dX5_choiceAt_2 2 5 rfl rfl rfl [2, 6] [0, 1, 3, 4, 5, 7, 8] rfl rfl rfl (by decide) (by decide) (by decide) rfl rfl (fun _ => rfl) rfl (fun _ => ?_)
  refine g_istore (pc := 5) C (lv' := [(4, .int (zI r_2)), (0, .ref (aPl 0)), (1, .int (zI v1)), (2, .int (zI v2)), (3, .int (zI v3))]) dX5_choiceAt_5 (Nat.le_of_ble_eq_true rfl) rfl ?_
  refine g_aload_n (pc := 7) C 1 dX5_choiceAt_7 rfl rfl ?_
  refine g_iload_n (pc := 8) C 2 dX5_choiceAt_8 rfl rfl ?_
  refine g_iload_n (pc := 9) C 3 dX5_choiceAt_9 rfl rfl ?_
  refine g_iload_n (pc := 10) C 4 dX5_choiceAt_10 rfl rfl ?_
  obtain ⟨r_11, hc_11, hf⟩ := Option.bind_eq_some_iff.mp hf
  refine g_callV (pc := 11) C hl0 (wr := [((aLw 0), .inr (4, [.ref (aLw 1), .ref (aLw 2)])), ((aLw 1), .inl (ca 0, 11, .inl (zA lw_numbers))), ((aPl 4), .inl (ca 0, 62, .inl (zA pl_minute))), ((aPl 5), .inl (ca 0, 62, .inl (zA pl_drive))), ((aPl 6), .inl (ca 0, 62, .inl (zA pl_enough))), ((aPl 8), .inl (ca 2, 62, .inr (.inl (zB pl_ownPrice)))), ((aPl 7), .inl (ca 0, 62, .inl (zA pl_endedBy)))]) (k' := 0) (n' := 0) (ws' := fun _ => [((aLw 0), .inr (4, [.ref (aLw 1), .ref (aLw 2)])), ((aLw 1), .inl (ca 0, 11, .inl (zA lw_numbers))), ((aPl 4), .inl (ca 0, 62, .inl (zA pl_minute))), ((aPl 5), .inl (ca 0, 62, .inl (zA pl_drive))), ((aPl 6), .inl (ca 0, 62, .inl (zA pl_enough))), ((aPl 8), .inl (ca 2, 62, .inr (.inl (zB pl_ownPrice)))), ((aPl 7), .inl (ca 0, 62, .inl (zA pl_endedBy))), ((aPl 0), .inr (5, [.ref (aLw 0), .ref (aRd 0), .ref (aDy 0), .ref (aPl 4), .ref (aPl 5), .ref (aPl 6), .ref (aPl 7), .ref (aPl 8), .int (zI pl_marks), .int (zI pl_mostTaken), .int (zI pl_mostExtended), .ref aLe])), (aLe, .inl (ca 2, pl_L, .inr (.inl (zB pl_least))))]) (st' := [.long (zJ r_11)]) (kX5_leastFrom l D ca aPl aLw aRd aDy aLe pl_marks pl_mostTaken pl_mostExtended pl_least pl_L v1 v2 v3 r_11 hc_11) wml_RX5_137 wim_X5_leastFrom wse_X5_leastFrom win_RX5 wco_X5_leastFrom (nA := 3) rfl (by decide +kernel)  ⟨(Nat.le_of_ble_eq_true rfl), (Nat.le_of_ble_eq_true rfl)⟩ (Nat.le_refl _) (Nat.le_refl _) rfl (Nat.le_of_ble_eq_true rfl) dX5_choiceAt_11 7 5 rfl rfl rfl [7, 6] [0, 1, 2, 3, 4, 5, 8] rfl rfl rfl (by decide) (by decide) (by decide) rfl rfl (fun _ => rfl) rfl (fun _ => ?_)
  refine g_lstore (pc := 14) C (lv' := [(5, .long (zJ r_11)), (4, .int (zI r_2)), (0, .ref (aPl 0)), (1, .int (zI v1)), (2, .int (zI v2)), (3, .int (zI v3))]) dX5_choiceAt_14 (Nat.le_of_ble_eq_true rfl) rfl ?_
  refine g_iload_n (pc := 16) C 3 dX5_choiceAt_16 rfl rfl ?_
  refine g_iconst (pc := 17) C dX5_choiceAt_17 ?_
  refine g_iadd (pc := 18) C dX5_choiceAt_18 ?_
  refine g_istore (pc := 19) C (lv' := [(7, .int (zI (v1 + 1))), (5, .long (zJ r_11)), (4, .int (zI r_2)), (0, .ref (aPl 0)), (1, .int (zI v1)), (2, .int (zI v2)), (3, .int (zI v3))]) dX5_choiceAt_19 (Nat.le_of_ble_eq_true rfl) rfl ?_
  refine g_sub [0, 1, 7, 2, 3, 4, 6, 5, 8] [3, 4, 5, 6, 2, 1, 0] (by decide) rfl rfl rfl ?_
  exact H21 _ _ _ _ hf
def oX5_offer (ca : Nat → ClassId) (aLw : Nat → Nat) (aPl : Nat → Nat) (aRd : Nat → Nat) (aDy : Nat → Nat) (aLe : Nat) (lw_numbers : Nat → Int) (pl_minute : Nat → Int) (pl_drive : Nat → Int) (pl_enough : Nat → Int) (pl_endedBy : Nat → Int) (pl_ownPrice : Nat → Int) (pl_marks : Int) (pl_mostTaken : Int) (pl_mostExtended : Int) (pl_L : Nat) (Ro : (Nat → Int)) : (Nat → Nat) → va_W := fun _ => [((aLw 0), .inr (4, [.ref (aLw 1), .ref (aLw 2)])), ((aLw 1), .inl (ca 0, 11, .inl (zA lw_numbers))), ((aPl 0), .inr (5, [.ref (aLw 0), .ref (aRd 0), .ref (aDy 0), .ref (aPl 4), .ref (aPl 5), .ref (aPl 6), .ref (aPl 7), .ref (aPl 8), .int (zI pl_marks), .int (zI pl_mostTaken), .int (zI pl_mostExtended), .ref aLe])), ((aPl 4), .inl (ca 0, 62, .inl (zA pl_minute))), ((aPl 5), .inl (ca 0, 62, .inl (zA pl_drive))), ((aPl 6), .inl (ca 0, 62, .inl (zA pl_enough))), ((aPl 7), .inl (ca 0, 62, .inl (zA pl_endedBy))), ((aPl 8), .inl (ca 2, 62, .inr (.inl (zB pl_ownPrice)))), (aLe, .inl (ca 2, pl_L, .inr (.inl (zB (Ro)))))]
def oiX5_offer (Ro : (Nat → Int)) : Option Value := none
set_option maxRecDepth 100000 in
theorem kX5_offer (l : Launch) (D : va_G) (ca : Nat → ClassId) (aLw : Nat → Nat) (aPl : Nat → Nat) (aRd : Nat → Nat) (aDy : Nat → Nat) (aLe : Nat) (lw_numbers : Nat → Int) (pl_minute : Nat → Int) (pl_drive : Nat → Int) (pl_enough : Nat → Int) (pl_endedBy : Nat → Int) (pl_ownPrice : Nat → Int) (pl_marks : Int) (pl_mostTaken : Int) (pl_mostExtended : Int) (pl_least : Nat → Int) (pl_L : Nat) (v1 : Int) (v2 : Int) (v3 : Int) (Ro : (Nat → Int))
    (hf : fX5_offer v1 v2 v3 lw_numbers pl_minute pl_drive pl_enough pl_endedBy pl_ownPrice pl_mostTaken pl_mostExtended pl_least pl_L = some Ro) : Zc l D ca yX5_offer cX5_offer 11 none { frames := 3, cells := 0, slots := 0, locals := 61 } [.ref (aPl 0), .int (zI v1), .int (zI v2), .int (zI v3)] [((aLw 0), .inr (4, [.ref (aLw 1), .ref (aLw 2)])), ((aLw 1), .inl (ca 0, 11, .inl (zA lw_numbers))), ((aPl 0), .inr (5, [.ref (aLw 0), .ref (aRd 0), .ref (aDy 0), .ref (aPl 4), .ref (aPl 5), .ref (aPl 6), .ref (aPl 7), .ref (aPl 8), .int (zI pl_marks), .int (zI pl_mostTaken), .int (zI pl_mostExtended), .ref aLe])), ((aPl 4), .inl (ca 0, 62, .inl (zA pl_minute))), ((aPl 5), .inl (ca 0, 62, .inl (zA pl_drive))), ((aPl 6), .inl (ca 0, 62, .inl (zA pl_enough))), ((aPl 7), .inl (ca 0, 62, .inl (zA pl_endedBy))), ((aPl 8), .inl (ca 2, 62, .inr (.inl (zB pl_ownPrice)))), (aLe, .inl (ca 2, pl_L, .inr (.inl (zB pl_least))))] (oiX5_offer Ro) (oX5_offer ca aLw aPl aRd aDy aLe lw_numbers pl_minute pl_drive pl_enough pl_endedBy pl_ownPrice pl_marks pl_mostTaken pl_mostExtended pl_L Ro) := by
  refine ctr_of (lv := [(0, .ref (aPl 0)), (1, .int (zI v1)), (2, .int (zI v2)), (3, .int (zI v3))]) (by decide +kernel) (Nat.le_of_ble_eq_true rfl) rfl (fun Γ hl0 C E hnm => ?_)
  have H12 : ∀ (v4 : Int) (n12 : Nat) (v6 : Int) (pl_least : Nat → Int), zlp (fX5_offer_12 v1 v2 v3 v4 pl_minute pl_endedBy pl_mostTaken pl_mostExtended pl_L) n12 (v6, pl_least) = some Ro → Zd D Γ 0 0 [((aLw 0), .inr (4, [.ref (aLw 1), .ref (aLw 2)])), ((aLw 1), .inl (ca 0, 11, .inl (zA lw_numbers))), ((aPl 0), .inr (5, [.ref (aLw 0), .ref (aRd 0), .ref (aDy 0), .ref (aPl 4), .ref (aPl 5), .ref (aPl 6), .ref (aPl 7), .ref (aPl 8), .int (zI pl_marks), .int (zI pl_mostTaken), .int (zI pl_mostExtended), .ref aLe])), ((aPl 4), .inl (ca 0, 62, .inl (zA pl_minute))), ((aPl 5), .inl (ca 0, 62, .inl (zA pl_drive))), ((aPl 6), .inl (ca 0, 62, .inl (zA pl_enough))), ((aPl 7), .inl (ca 0, 62, .inl (zA pl_endedBy))), ((aPl 8), .inl (ca 2, 62, .inr (.inl (zB pl_ownPrice)))), (aLe, .inl (ca 2, pl_L, .inr (.inl (zB pl_least))))] 12 [(0, .ref (aPl 0)), (1, .int (zI v1)), (2, .int (zI v2)), (3, .int (zI v3)), (4, .long (zJ v4)), (6, .int (zI v6))] [] := by
    intro v4
    intro n12
    induction n12 with
    | zero =>
      intro v6 pl_least hf
      exact zno hf
    | succ n12 ih12 =>
      have H34 : ∀ (v6 : Int) (v7 : Int) (n34 : Nat) (v8 : Int) (pl_least : Nat → Int), zlp (fX5_offer_34 (zlp (fX5_offer_12 v1 v2 v3 v4 pl_minute pl_endedBy pl_mostTaken pl_mostExtended pl_L) n12) v1 v2 v3 v4 v6 v7 pl_minute pl_mostTaken pl_mostExtended pl_L) n34 (v8, pl_least) = some Ro → Zd D Γ 0 0 [((aLw 0), .inr (4, [.ref (aLw 1), .ref (aLw 2)])), ((aLw 1), .inl (ca 0, 11, .inl (zA lw_numbers))), ((aPl 0), .inr (5, [.ref (aLw 0), .ref (aRd 0), .ref (aDy 0), .ref (aPl 4), .ref (aPl 5), .ref (aPl 6), .ref (aPl 7), .ref (aPl 8), .int (zI pl_marks), .int (zI pl_mostTaken), .int (zI pl_mostExtended), .ref aLe])), ((aPl 4), .inl (ca 0, 62, .inl (zA pl_minute))), ((aPl 5), .inl (ca 0, 62, .inl (zA pl_drive))), ((aPl 6), .inl (ca 0, 62, .inl (zA pl_enough))), ((aPl 7), .inl (ca 0, 62, .inl (zA pl_endedBy))), ((aPl 8), .inl (ca 2, 62, .inr (.inl (zB pl_ownPrice)))), (aLe, .inl (ca 2, pl_L, .inr (.inl (zB pl_least))))] 34 [(0, .ref (aPl 0)), (1, .int (zI v1)), (2, .int (zI v2)), (3, .int (zI v3)), (4, .long (zJ v4)), (6, .int (zI v6)), (7, .int (zI v7)), (8, .int (zI v8))] [] := by
        intro v6 v7
        intro n34
        induction n34 with
        | zero =>
          intro v8 pl_least hf
          exact zno hf
        | succ n34 ih34 =>
          intro v8 pl_least hf
          rw [zlp_s] at hf
          unfold fX5_offer_34 at hf
          dsimp only at hf
          refine g_iload (pc := 34) C 7 dX5_offer_34 rfl ?_
          refine g_aload_n (pc := 36) C 0 dX5_offer_36 rfl rfl ?_
          refine g_get (pc := 37) C zf_X5_35 2 rfl rfl dX5_offer_37 ?_
          refine g_icmp_gt (pc := 40) C (tgt := 101) dX5_offer_40 (by decide) hf (fun hf => ?_) (fun hf => ?_)
          · refine g_iinc (pc := 101) C 5 (lv' := [(6, .int (zI (v6 + 1))), (0, .ref (aPl 0)), (1, .int (zI v1)), (2, .int (zI v2)), (3, .int (zI v3)), (4, .long (zJ v4)), (7, .int (zI v7)), (8, .int (zI v8))]) dX5_offer_101 rfl (Nat.le_of_ble_eq_true rfl) rfl ?_
            refine g_goto (pc := 104) C (tgt := 12) dX5_offer_104 (by decide) ?_
            refine g_sub [0, 1, 2, 3, 4, 5, 6, 7, 8] [1, 2, 3, 4, 5, 0] (by decide) rfl rfl rfl ?_
            exact ih12 _ _ hf
          · refine g_aload_n (pc := 43) C 0 dX5_offer_43 rfl rfl ?_
            refine g_iload_n (pc := 44) C 1 dX5_offer_44 rfl rfl ?_
            refine g_iload (pc := 45) C 5 dX5_offer_45 rfl ?_
            refine g_iload (pc := 47) C 7 dX5_offer_47 rfl ?_
            obtain ⟨r_49, hc_49, hf⟩ := Option.bind_eq_some_iff.mp hf
            refine g_callV (pc := 49) C hl0 (wr := [((aLw 0), .inr (4, [.ref (aLw 1), .ref (aLw 2)])), ((aLw 1), .inl (ca 0, 11, .inl (zA lw_numbers))), ((aPl 4), .inl (ca 0, 62, .inl (zA pl_minute))), ((aPl 5), .inl (ca 0, 62, .inl (zA pl_drive))), ((aPl 6), .inl (ca 0, 62, .inl (zA pl_enough))), ((aPl 7), .inl (ca 0, 62, .inl (zA pl_endedBy))), ((aPl 8), .inl (ca 2, 62, .inr (.inl (zB pl_ownPrice)))), (aLe, .inl (ca 2, pl_L, .inr (.inl (zB pl_least))))]) (k' := 0) (n' := 0) (ws' := fun _ => [((aLw 0), .inr (4, [.ref (aLw 1), .ref (aLw 2)])), ((aLw 1), .inl (ca 0, 11, .inl (zA lw_numbers))), ((aPl 4), .inl (ca 0, 62, .inl (zA pl_minute))), ((aPl 5), .inl (ca 0, 62, .inl (zA pl_drive))), ((aPl 6), .inl (ca 0, 62, .inl (zA pl_enough))), ((aPl 7), .inl (ca 0, 62, .inl (zA pl_endedBy))), ((aPl 8), .inl (ca 2, 62, .inr (.inl (zB pl_ownPrice)))), (aLe, .inl (ca 2, pl_L, .inr (.inl (zB pl_least)))), ((aPl 0), .inr (5, [.ref (aLw 0), .ref (aRd 0), .ref (aDy 0), .ref (aPl 4), .ref (aPl 5), .ref (aPl 6), .ref (aPl 7), .ref (aPl 8), .int (zI pl_marks), .int (zI pl_mostTaken), .int (zI pl_mostExtended), .ref aLe]))]) (st' := [.int (zI r_49)]) (kX5_placeOf l D ca aPl aLw aRd aDy aLe pl_marks pl_mostTaken pl_mostExtended v1 v6 v8 r_49 hc_49) wml_RX5_111 wim_X5_placeOf wse_X5_placeOf win_RX5 wco_X5_placeOf (nA := 3) rfl (by decide +kernel)  ⟨(Nat.le_of_ble_eq_true rfl), (Nat.le_of_ble_eq_true rfl)⟩ (Nat.le_refl _) (Nat.le_refl _) rfl (Nat.le_of_ble_eq_true rfl) dX5_offer_49 2 5 rfl rfl rfl [2] [0, 1, 3, 4, 5, 6, 7, 8] rfl rfl rfl (by decide) (by decide) (by decide) rfl rfl (fun _ => rfl) rfl (fun _ => ?_)
            refine g_istore (pc := 52) C (lv' := [(9, .int (zI r_49)), (0, .ref (aPl 0)), (1, .int (zI v1)), (2, .int (zI v2)), (3, .int (zI v3)), (4, .long (zJ v4)), (6, .int (zI v6)), (7, .int (zI v7)), (8, .int (zI v8))]) dX5_offer_52 (Nat.le_of_ble_eq_true rfl) rfl ?_
            refine g_aload_n (pc := 54) C 1 dX5_offer_54 rfl rfl ?_
            refine g_iload_n (pc := 55) C 2 dX5_offer_55 rfl rfl ?_
            refine g_iload_n (pc := 56) C 3 dX5_offer_56 rfl rfl ?_
            refine g_iload (pc := 57) C 8 dX5_offer_57 rfl ?_
            refine g_iload_n (pc := 59) C 4 dX5_offer_59 rfl rfl ?_
            refine g_isub (pc := 60) C dX5_offer_60 ?_
            obtain ⟨r_61, hc_61, hf⟩ := Option.bind_eq_some_iff.mp hf
            refine g_callV (pc := 61) C hl0 (wr := [((aLw 0), .inr (4, [.ref (aLw 1), .ref (aLw 2)])), ((aLw 1), .inl (ca 0, 11, .inl (zA lw_numbers))), ((aPl 5), .inl (ca 0, 62, .inl (zA pl_drive))), ((aPl 6), .inl (ca 0, 62, .inl (zA pl_enough))), ((aPl 7), .inl (ca 0, 62, .inl (zA pl_endedBy))), ((aPl 8), .inl (ca 2, 62, .inr (.inl (zB pl_ownPrice)))), (aLe, .inl (ca 2, pl_L, .inr (.inl (zB pl_least))))]) (k' := 0) (n' := 0) (ws' := fun _ => [((aLw 0), .inr (4, [.ref (aLw 1), .ref (aLw 2)])), ((aLw 1), .inl (ca 0, 11, .inl (zA lw_numbers))), ((aPl 5), .inl (ca 0, 62, .inl (zA pl_drive))), ((aPl 6), .inl (ca 0, 62, .inl (zA pl_enough))), ((aPl 7), .inl (ca 0, 62, .inl (zA pl_endedBy))), ((aPl 8), .inl (ca 2, 62, .inr (.inl (zB pl_ownPrice)))), (aLe, .inl (ca 2, pl_L, .inr (.inl (zB pl_least)))), ((aPl 0), .inr (5, [.ref (aLw 0), .ref (aRd 0), .ref (aDy 0), .ref (aPl 4), .ref (aPl 5), .ref (aPl 6), .ref (aPl 7), .ref (aPl 8), .int (zI pl_marks), .int (zI pl_mostTaken), .int (zI pl_mostExtended), .ref aLe])), ((aPl 4), .inl (ca 0, 62, .inl (zA pl_minute)))]) (st' := [.int (zI r_61)]) (kX5_extendedLeft l D ca aPl aLw aRd aDy aLe pl_minute pl_marks pl_mostTaken pl_mostExtended v1 v2 (v8 - v3) r_61 hc_61) wml_RX5_134 wim_X5_extendedLeft wse_X5_extendedLeft win_RX5 wco_X5_extendedLeft (nA := 3) rfl (by decide +kernel)  ⟨(Nat.le_of_ble_eq_true rfl), (Nat.le_of_ble_eq_true rfl)⟩ (Nat.le_refl _) (Nat.le_refl _) rfl (Nat.le_of_ble_eq_true rfl) dX5_offer_61 8 5 rfl rfl rfl [8, 2] [0, 1, 3, 4, 5, 6, 7] rfl rfl rfl (by decide) (by decide) (by decide) rfl rfl (fun _ => rfl) rfl (fun _ => ?_)
            refine g_istore (pc := 64) C (lv' := [(10, .int (zI r_61)), (9, .int (zI r_49)), (0, .ref (aPl 0)), (1, .int (zI v1)), (2, .int (zI v2)), (3, .int (zI v3)), (4, .long (zJ v4)), (6, .int (zI v6)), (7, .int (zI v7)), (8, .int (zI v8))]) dX5_offer_64 (Nat.le_of_ble_eq_true rfl) rfl ?_
            refine g_aload_n (pc := 66) C 2 dX5_offer_66 rfl rfl ?_
            refine g_get (pc := 67) C zf_X5_38 7 rfl rfl dX5_offer_67 ?_
            refine g_iload (pc := 70) C 1 dX5_offer_70 rfl ?_
            refine g_aload_n (pc := 72) C 2 dX5_offer_72 rfl rfl ?_
            refine g_get (pc := 73) C zf_X5_38 7 rfl rfl dX5_offer_73 ?_
            refine g_iload (pc := 76) C 1 dX5_offer_76 rfl ?_
            refine g_lald (pc := 78) C (N := (pl_L : Int)) 6 rfl rfl dX5_offer_78 hf (fun hf => ?_)
            refine g_lload (pc := 79) C 6 dX5_offer_79 rfl ?_
            refine g_aload_n (pc := 81) C 2 dX5_offer_81 rfl rfl ?_
            refine g_iload_n (pc := 82) C 4 dX5_offer_82 rfl rfl ?_
            refine g_iload (pc := 83) C 8 dX5_offer_83 rfl ?_
            refine g_iload (pc := 85) C 0 dX5_offer_85 rfl ?_
            obtain ⟨r_87, hc_87, hf⟩ := Option.bind_eq_some_iff.mp hf
            refine g_callV (pc := 87) C hl0 (wr := [((aLw 0), .inr (4, [.ref (aLw 1), .ref (aLw 2)])), ((aLw 1), .inl (ca 0, 11, .inl (zA lw_numbers))), ((aPl 5), .inl (ca 0, 62, .inl (zA pl_drive))), ((aPl 6), .inl (ca 0, 62, .inl (zA pl_enough))), ((aPl 7), .inl (ca 0, 62, .inl (zA pl_endedBy))), ((aPl 8), .inl (ca 2, 62, .inr (.inl (zB pl_ownPrice)))), ((aPl 4), .inl (ca 0, 62, .inl (zA pl_minute)))]) (k' := 0) (n' := 0) (ws' := fun _ => [((aLw 0), .inr (4, [.ref (aLw 1), .ref (aLw 2)])), ((aLw 1), .inl (ca 0, 11, .inl (zA lw_numbers))), ((aPl 5), .inl (ca 0, 62, .inl (zA pl_drive))), ((aPl 6), .inl (ca 0, 62, .inl (zA pl_enough))), ((aPl 7), .inl (ca 0, 62, .inl (zA pl_endedBy))), ((aPl 8), .inl (ca 2, 62, .inr (.inl (zB pl_ownPrice)))), ((aPl 4), .inl (ca 0, 62, .inl (zA pl_minute))), ((aPl 0), .inr (5, [.ref (aLw 0), .ref (aRd 0), .ref (aDy 0), .ref (aPl 4), .ref (aPl 5), .ref (aPl 6), .ref (aPl 7), .ref (aPl 8), .int (zI pl_marks), .int (zI pl_mostTaken), .int (zI pl_mostExtended), .ref aLe])), (aLe, .inl (ca 2, pl_L, .inr (.inl (zB pl_least))))]) (st' := [.long (zJ r_87), .long (zJ v4), .long (zJ (pl_least r_49.toNat)), .int (zI r_49), .ref aLe]) (kX5_leastFrom l D ca aPl aLw aRd aDy aLe pl_marks pl_mostTaken pl_mostExtended pl_least pl_L v2 v7 r_61 r_87 hc_87) wml_RX5_137 wim_X5_leastFrom wse_X5_leastFrom win_RX5 wco_X5_leastFrom (nA := 3) rfl (by decide +kernel)  ⟨(Nat.le_of_ble_eq_true rfl), (Nat.le_of_ble_eq_true rfl)⟩ (Nat.le_refl _) (Nat.le_refl _) rfl (Nat.le_of_ble_eq_true rfl) dX5_offer_87 7 5 rfl rfl rfl [7, 6] [0, 1, 2, 3, 4, 5, 8] rfl rfl rfl (by decide) (by decide) (by decide) rfl rfl (fun _ => rfl) rfl (fun _ => ?_)
            refine g_ladd (pc := 90) C dX5_offer_90 ?_
            refine g_mminl (pc := 91) C wml_RX5_140 (Nat.le_of_ble_eq_true rfl) (Nat.le_of_ble_eq_true rfl) (Nat.zero_le _) (Nat.zero_le _) dX5_offer_91 hf (fun hf => ?_)
            refine g_last (pc := 94) C (N := (pl_L : Int)) (ws' := [((aLw 0), .inr (4, [.ref (aLw 1), .ref (aLw 2)])), ((aLw 1), .inl (ca 0, 11, .inl (zA lw_numbers))), ((aPl 5), .inl (ca 0, 62, .inl (zA pl_drive))), ((aPl 6), .inl (ca 0, 62, .inl (zA pl_enough))), ((aPl 7), .inl (ca 0, 62, .inl (zA pl_endedBy))), ((aPl 8), .inl (ca 2, 62, .inr (.inl (zB pl_ownPrice)))), ((aPl 4), .inl (ca 0, 62, .inl (zA pl_minute))), ((aPl 0), .inr (5, [.ref (aLw 0), .ref (aRd 0), .ref (aDy 0), .ref (aPl 4), .ref (aPl 5), .ref (aPl 6), .ref (aPl 7), .ref (aPl 8), .int (zI pl_marks), .int (zI pl_mostTaken), .int (zI pl_mostExtended), .ref aLe])), (aLe, .inl (ca 2, pl_L, .inr (.inl (zB (zU pl_least r_49.toNat (min (pl_least r_49.toNat) (v4 + r_87)))))))]) 8 rfl rfl rfl dX5_offer_94 hf (fun hf => ?_)
            refine g_iinc (pc := 95) C 9 (lv' := [(8, .int (zI (v8 + 1))), (10, .int (zI r_61)), (9, .int (zI r_49)), (0, .ref (aPl 0)), (1, .int (zI v1)), (2, .int (zI v2)), (3, .int (zI v3)), (4, .long (zJ v4)), (6, .int (zI v6)), (7, .int (zI v7))]) dX5_offer_95 rfl (Nat.le_of_ble_eq_true rfl) rfl ?_
            refine g_goto (pc := 98) C (tgt := 34) dX5_offer_98 (by decide) ?_
            refine g_sub [0, 1, 7, 6, 2, 3, 4, 5, 8] [3, 4, 5, 6, 7, 8, 9, 0] (by decide) rfl rfl rfl ?_
            exact ih34 _ _ hf
      intro v6 pl_least hf
      rw [zlp_s] at hf
      unfold fX5_offer_12 at hf
      dsimp only at hf
      refine g_iload (pc := 12) C 5 dX5_offer_12 rfl ?_
      refine g_aload_n (pc := 14) C 0 dX5_offer_14 rfl rfl ?_
      refine g_get (pc := 15) C zf_X5_32 2 rfl rfl dX5_offer_15 ?_
      refine g_icmp_gt (pc := 18) C (tgt := 107) dX5_offer_18 (by decide) hf (fun hf => ?_) (fun hf => ?_)
      · exact g_vret (pc := 107) C hf E rfl (fun _ => 0) [0, 1, 2, 3, 4, 5, 6, 7, 8] (by decide) rfl rfl (Nat.le_refl _) (Nat.le_refl _) dX5_offer_107
      · refine g_aload_n (pc := 21) C 0 dX5_offer_21 rfl rfl ?_
        refine g_iload_n (pc := 22) C 1 dX5_offer_22 rfl rfl ?_
        refine g_iload_n (pc := 23) C 2 dX5_offer_23 rfl rfl ?_
        refine g_iload (pc := 24) C 5 dX5_offer_24 rfl ?_
        obtain ⟨r_26, hc_26, hf⟩ := Option.bind_eq_some_iff.mp hf
        refine g_callV (pc := 26) C hl0 (wr := [((aLw 0), .inr (4, [.ref (aLw 1), .ref (aLw 2)])), ((aLw 1), .inl (ca 0, 11, .inl (zA lw_numbers))), ((aPl 5), .inl (ca 0, 62, .inl (zA pl_drive))), ((aPl 6), .inl (ca 0, 62, .inl (zA pl_enough))), ((aPl 8), .inl (ca 2, 62, .inr (.inl (zB pl_ownPrice)))), (aLe, .inl (ca 2, pl_L, .inr (.inl (zB pl_least))))]) (k' := 0) (n' := 0) (ws' := fun _ => [((aLw 0), .inr (4, [.ref (aLw 1), .ref (aLw 2)])), ((aLw 1), .inl (ca 0, 11, .inl (zA lw_numbers))), ((aPl 5), .inl (ca 0, 62, .inl (zA pl_drive))), ((aPl 6), .inl (ca 0, 62, .inl (zA pl_enough))), ((aPl 8), .inl (ca 2, 62, .inr (.inl (zB pl_ownPrice)))), (aLe, .inl (ca 2, pl_L, .inr (.inl (zB pl_least)))), ((aPl 0), .inr (5, [.ref (aLw 0), .ref (aRd 0), .ref (aDy 0), .ref (aPl 4), .ref (aPl 5), .ref (aPl 6), .ref (aPl 7), .ref (aPl 8), .int (zI pl_marks), .int (zI pl_mostTaken), .int (zI pl_mostExtended), .ref aLe])), ((aPl 4), .inl (ca 0, 62, .inl (zA pl_minute))), ((aPl 7), .inl (ca 0, 62, .inl (zA pl_endedBy)))]) (st' := [.int (zI r_26)]) (kX5_takenLeft l D ca aPl aLw aRd aDy aLe pl_minute pl_endedBy pl_marks pl_mostTaken pl_mostExtended v1 v2 v6 r_26 hc_26) wml_RX5_131 wim_X5_takenLeft wse_X5_takenLeft win_RX5 wco_X5_takenLeft (nA := 3) rfl (by decide +kernel)  ⟨(Nat.le_of_ble_eq_true rfl), (Nat.le_of_ble_eq_true rfl)⟩ (Nat.le_refl _) (Nat.le_refl _) rfl (Nat.le_of_ble_eq_true rfl) dX5_offer_26 2 5 rfl rfl rfl [2, 3, 6] [0, 1, 4, 5, 7, 8] rfl rfl rfl (by decide) (by decide) (by decide) rfl rfl (fun _ => rfl) rfl (fun _ => ?_)
        refine g_istore (pc := 29) C (lv' := [(7, .int (zI r_26)), (0, .ref (aPl 0)), (1, .int (zI v1)), (2, .int (zI v2)), (3, .int (zI v3)), (4, .long (zJ v4)), (6, .int (zI v6))]) dX5_offer_29 (Nat.le_of_ble_eq_true rfl) rfl ?_
        refine g_iconst (pc := 31) C dX5_offer_31 ?_
        refine g_istore (pc := 32) C (lv' := [(8, .int (zI 0)), (7, .int (zI r_26)), (0, .ref (aPl 0)), (1, .int (zI v1)), (2, .int (zI v2)), (3, .int (zI v3)), (4, .long (zJ v4)), (6, .int (zI v6))]) dX5_offer_32 (Nat.le_of_ble_eq_true rfl) rfl ?_
        refine g_sub [0, 1, 6, 7, 2, 3, 8, 4, 5] [2, 3, 4, 5, 6, 7, 1, 0] (by decide) rfl rfl rfl ?_
        exact H34 _ _ _ _ _ hf
  unfold fX5_offer at hf
  refine g_aload_n (pc := 0) C 0 dX5_offer_0 rfl rfl ?_
  refine g_iload_n (pc := 1) C 1 dX5_offer_1 rfl rfl ?_
  refine g_iload_n (pc := 2) C 2 dX5_offer_2 rfl rfl ?_
  refine g_iload_n (pc := 3) C 3 dX5_offer_3 rfl rfl ?_
  obtain ⟨r_4, hc_4, hf⟩ := Option.bind_eq_some_iff.mp hf
  refine g_callV (pc := 4) C hl0 (wr := [((aPl 7), .inl (ca 0, 62, .inl (zA pl_endedBy))), (aLe, .inl (ca 2, pl_L, .inr (.inl (zB pl_least))))]) (k' := 0) (n' := 0) (ws' := fun _ => [((aPl 7), .inl (ca 0, 62, .inl (zA pl_endedBy))), (aLe, .inl (ca 2, pl_L, .inr (.inl (zB pl_least)))), ((aLw 0), .inr (4, [.ref (aLw 1), .ref (aLw 2)])), ((aLw 1), .inl (ca 0, 11, .inl (zA lw_numbers))), ((aPl 0), .inr (5, [.ref (aLw 0), .ref (aRd 0), .ref (aDy 0), .ref (aPl 4), .ref (aPl 5), .ref (aPl 6), .ref (aPl 7), .ref (aPl 8), .int (zI pl_marks), .int (zI pl_mostTaken), .int (zI pl_mostExtended), .ref aLe])), ((aPl 4), .inl (ca 0, 62, .inl (zA pl_minute))), ((aPl 5), .inl (ca 0, 62, .inl (zA pl_drive))), ((aPl 6), .inl (ca 0, 62, .inl (zA pl_enough))), ((aPl 8), .inl (ca 2, 62, .inr (.inl (zB pl_ownPrice))))]) (st' := [.long (zJ r_4)]) (kX5_priceOf l D ca aLw aPl aRd aDy aLe lw_numbers pl_minute pl_drive pl_enough pl_ownPrice pl_marks pl_mostTaken pl_mostExtended v1 v2 v3 r_4 hc_4) wml_RX5_127 wim_X5_priceOf wse_X5_priceOf win_RX5 wco_X5_priceOf (nA := 3) rfl (by decide +kernel)  ⟨(Nat.le_of_ble_eq_true rfl), (Nat.le_of_ble_eq_true rfl)⟩ (Nat.le_refl _) (Nat.le_refl _) rfl (Nat.le_of_ble_eq_true rfl) dX5_offer_4 2 5 rfl rfl rfl [0, 1, 2, 3, 4, 5, 7] [6, 8] rfl rfl rfl (by decide) (by decide) (by decide) rfl rfl (fun _ => rfl) rfl (fun _ => ?_)
  refine g_lstore (pc := 7) C (lv' := [(4, .long (zJ r_4)), (0, .ref (aPl 0)), (1, .int (zI v1)), (2, .int (zI v2)), (3, .int (zI v3))]) dX5_offer_7 (Nat.le_of_ble_eq_true rfl) rfl ?_
  refine g_iconst (pc := 9) C dX5_offer_9 ?_
  refine g_istore (pc := 10) C (lv' := [(6, .int (zI 0)), (4, .long (zJ r_4)), (0, .ref (aPl 0)), (1, .int (zI v1)), (2, .int (zI v2)), (3, .int (zI v3))]) dX5_offer_10 (Nat.le_of_ble_eq_true rfl) rfl ?_
  refine g_sub [2, 3, 4, 5, 6, 7, 0, 8, 1] [2, 3, 4, 5, 1, 0] (by decide) rfl rfl rfl ?_
  exact H12 _ _ _ _ hf
def oX5_findLeast (ca : Nat → ClassId) (aLw : Nat → Nat) (aPl : Nat → Nat) (aRd : Nat → Nat) (aDy : Nat → Nat) (aLe : Nat) (lw_numbers : Nat → Int) (pl_minute : Nat → Int) (pl_drive : Nat → Int) (pl_enough : Nat → Int) (pl_endedBy : Nat → Int) (pl_ownPrice : Nat → Int) (pl_marks : Int) (pl_mostTaken : Int) (pl_mostExtended : Int) (pl_L : Nat) (rd_acts : Int) (rd_total : Int) (rd_drive : Int) (rd_runs : Int) (Ro : (Nat → Int)) : (Nat → Nat) → va_W := fun _ => [((aLw 0), .inr (4, [.ref (aLw 1), .ref (aLw 2)])), ((aLw 1), .inl (ca 0, 11, .inl (zA lw_numbers))), ((aPl 0), .inr (5, [.ref (aLw 0), .ref (aRd 0), .ref (aDy 0), .ref (aPl 4), .ref (aPl 5), .ref (aPl 6), .ref (aPl 7), .ref (aPl 8), .int (zI pl_marks), .int (zI pl_mostTaken), .int (zI pl_mostExtended), .ref aLe])), ((aPl 4), .inl (ca 0, 62, .inl (zA pl_minute))), ((aPl 5), .inl (ca 0, 62, .inl (zA pl_drive))), ((aPl 6), .inl (ca 0, 62, .inl (zA pl_enough))), ((aPl 7), .inl (ca 0, 62, .inl (zA pl_endedBy))), ((aPl 8), .inl (ca 2, 62, .inr (.inl (zB pl_ownPrice)))), (aLe, .inl (ca 2, pl_L, .inr (.inl (zB (Ro))))), ((aRd 0), .inr (6, [.ref (aRd 1), .ref (aRd 2), .ref (aRd 3), .ref (aRd 4), .ref (aRd 5), .int (zI rd_acts), .int (zI rd_total), .int (zI rd_drive), .int (zI rd_runs)]))]
def oiX5_findLeast (Ro : (Nat → Int)) : Option Value := none
set_option maxRecDepth 100000 in
theorem kX5_findLeast (l : Launch) (D : va_G) (ca : Nat → ClassId) (aLw : Nat → Nat) (aPl : Nat → Nat) (aRd : Nat → Nat) (aDy : Nat → Nat) (aLe : Nat) (lw_numbers : Nat → Int) (pl_minute : Nat → Int) (pl_drive : Nat → Int) (pl_enough : Nat → Int) (pl_endedBy : Nat → Int) (pl_ownPrice : Nat → Int) (pl_marks : Int) (pl_mostTaken : Int) (pl_mostExtended : Int) (pl_least : Nat → Int) (pl_L : Nat) (rd_acts : Int) (rd_total : Int) (rd_drive : Int) (rd_runs : Int) (v1 : Int) (Ro : (Nat → Int))
    (hf : fX5_findLeast v1 lw_numbers pl_minute pl_drive pl_enough pl_endedBy pl_ownPrice pl_marks pl_mostTaken pl_mostExtended pl_least pl_L rd_total = some Ro) : Zc l D ca yX5_findLeast cX5_findLeast 6 none { frames := 4, cells := 0, slots := 0, locals := 91 } [.ref (aPl 0), .int (zI v1)] [((aLw 0), .inr (4, [.ref (aLw 1), .ref (aLw 2)])), ((aLw 1), .inl (ca 0, 11, .inl (zA lw_numbers))), ((aPl 0), .inr (5, [.ref (aLw 0), .ref (aRd 0), .ref (aDy 0), .ref (aPl 4), .ref (aPl 5), .ref (aPl 6), .ref (aPl 7), .ref (aPl 8), .int (zI pl_marks), .int (zI pl_mostTaken), .int (zI pl_mostExtended), .ref aLe])), ((aPl 4), .inl (ca 0, 62, .inl (zA pl_minute))), ((aPl 5), .inl (ca 0, 62, .inl (zA pl_drive))), ((aPl 6), .inl (ca 0, 62, .inl (zA pl_enough))), ((aPl 7), .inl (ca 0, 62, .inl (zA pl_endedBy))), ((aPl 8), .inl (ca 2, 62, .inr (.inl (zB pl_ownPrice)))), (aLe, .inl (ca 2, pl_L, .inr (.inl (zB pl_least)))), ((aRd 0), .inr (6, [.ref (aRd 1), .ref (aRd 2), .ref (aRd 3), .ref (aRd 4), .ref (aRd 5), .int (zI rd_acts), .int (zI rd_total), .int (zI rd_drive), .int (zI rd_runs)]))] (oiX5_findLeast Ro) (oX5_findLeast ca aLw aPl aRd aDy aLe lw_numbers pl_minute pl_drive pl_enough pl_endedBy pl_ownPrice pl_marks pl_mostTaken pl_mostExtended pl_L rd_acts rd_total rd_drive rd_runs Ro) := by
  refine ctr_of (lv := [(0, .ref (aPl 0)), (1, .int (zI v1))]) (by decide +kernel) (Nat.le_of_ble_eq_true rfl) rfl (fun Γ hl0 C E hnm => ?_)
  have H88 : ∀ (v4 : Int) (n88 : Nat) (v5 : Int) (pl_least : Nat → Int), zlp (fX5_findLeast_88 v1 v4 lw_numbers pl_minute pl_drive pl_enough pl_endedBy pl_ownPrice pl_mostTaken pl_mostExtended pl_L) n88 (v5, pl_least) = some Ro → Zd D Γ 0 0 [((aLw 0), .inr (4, [.ref (aLw 1), .ref (aLw 2)])), ((aLw 1), .inl (ca 0, 11, .inl (zA lw_numbers))), ((aPl 0), .inr (5, [.ref (aLw 0), .ref (aRd 0), .ref (aDy 0), .ref (aPl 4), .ref (aPl 5), .ref (aPl 6), .ref (aPl 7), .ref (aPl 8), .int (zI pl_marks), .int (zI pl_mostTaken), .int (zI pl_mostExtended), .ref aLe])), ((aPl 4), .inl (ca 0, 62, .inl (zA pl_minute))), ((aPl 5), .inl (ca 0, 62, .inl (zA pl_drive))), ((aPl 6), .inl (ca 0, 62, .inl (zA pl_enough))), ((aPl 7), .inl (ca 0, 62, .inl (zA pl_endedBy))), ((aPl 8), .inl (ca 2, 62, .inr (.inl (zB pl_ownPrice)))), (aLe, .inl (ca 2, pl_L, .inr (.inl (zB pl_least)))), ((aRd 0), .inr (6, [.ref (aRd 1), .ref (aRd 2), .ref (aRd 3), .ref (aRd 4), .ref (aRd 5), .int (zI rd_acts), .int (zI rd_total), .int (zI rd_drive), .int (zI rd_runs)]))] 88 [(0, .ref (aPl 0)), (1, .int (zI v1)), (4, .int (zI v4)), (5, .int (zI v5))] [] := by
    intro v4
    intro n88
    induction n88 with
    | zero =>
      intro v5 pl_least hf
      exact zno hf
    | succ n88 ih88 =>
      intro v5 pl_least hf
      rw [zlp_s] at hf
      unfold fX5_findLeast_88 at hf
      dsimp only at hf
      refine g_iload (pc := 88) C 3 dX5_findLeast_88 rfl ?_
      refine g_iload (pc := 90) C 2 dX5_findLeast_90 rfl ?_
      refine g_icmp_gt (pc := 92) C (tgt := 117) dX5_findLeast_92 (by decide) hf (fun hf => ?_) (fun hf => ?_)
      · exact g_vret (pc := 117) C hf E rfl (fun _ => 0) [0, 1, 2, 3, 4, 5, 6, 7, 8, 9] (by decide) rfl rfl (Nat.le_refl _) (Nat.le_refl _) dX5_findLeast_117
      · refine g_aload_n (pc := 95) C 0 dX5_findLeast_95 rfl rfl ?_
        refine g_iload_n (pc := 96) C 1 dX5_findLeast_96 rfl rfl ?_
        refine g_iload (pc := 97) C 3 dX5_findLeast_97 rfl ?_
        refine g_iconst (pc := 99) C dX5_findLeast_99 ?_
        obtain ⟨pl_least_100, hc_100, hf⟩ := Option.bind_eq_some_iff.mp hf
        refine g_callV (pc := 100) C hl0 (wr := [((aRd 0), .inr (6, [.ref (aRd 1), .ref (aRd 2), .ref (aRd 3), .ref (aRd 4), .ref (aRd 5), .int (zI rd_acts), .int (zI rd_total), .int (zI rd_drive), .int (zI rd_runs)]))]) (k' := 0) (n' := 0) (ws' := fun _ => [((aRd 0), .inr (6, [.ref (aRd 1), .ref (aRd 2), .ref (aRd 3), .ref (aRd 4), .ref (aRd 5), .int (zI rd_acts), .int (zI rd_total), .int (zI rd_drive), .int (zI rd_runs)])), ((aLw 0), .inr (4, [.ref (aLw 1), .ref (aLw 2)])), ((aLw 1), .inl (ca 0, 11, .inl (zA lw_numbers))), ((aPl 0), .inr (5, [.ref (aLw 0), .ref (aRd 0), .ref (aDy 0), .ref (aPl 4), .ref (aPl 5), .ref (aPl 6), .ref (aPl 7), .ref (aPl 8), .int (zI pl_marks), .int (zI pl_mostTaken), .int (zI pl_mostExtended), .ref aLe])), ((aPl 4), .inl (ca 0, 62, .inl (zA pl_minute))), ((aPl 5), .inl (ca 0, 62, .inl (zA pl_drive))), ((aPl 6), .inl (ca 0, 62, .inl (zA pl_enough))), ((aPl 7), .inl (ca 0, 62, .inl (zA pl_endedBy))), ((aPl 8), .inl (ca 2, 62, .inr (.inl (zB pl_ownPrice)))), (aLe, .inl (ca 2, pl_L, .inr (.inl (zB pl_least_100))))]) (st' := []) (kX5_offer l D ca aLw aPl aRd aDy aLe lw_numbers pl_minute pl_drive pl_enough pl_endedBy pl_ownPrice pl_marks pl_mostTaken pl_mostExtended pl_least pl_L v1 v5 0 pl_least_100 hc_100) wml_RX5_123 wim_X5_offer wse_X5_offer win_RX5 wco_X5_offer (nA := 3) rfl (by decide +kernel)  ⟨(Nat.le_of_ble_eq_true rfl), (Nat.le_of_ble_eq_true rfl)⟩ (Nat.le_refl _) (Nat.le_refl _) rfl (Nat.le_of_ble_eq_true rfl) dX5_findLeast_100 2 5 rfl rfl rfl [0, 1, 2, 3, 4, 5, 6, 7, 8] [9] rfl rfl rfl (by decide) (by decide) (by decide) rfl rfl (fun _ => rfl) rfl (fun _ => ?_)
        refine g_aload_n (pc := 103) C 0 dX5_findLeast_103 rfl rfl ?_
        refine g_iload_n (pc := 104) C 1 dX5_findLeast_104 rfl rfl ?_
        refine g_iload (pc := 105) C 3 dX5_findLeast_105 rfl ?_
        refine g_iconst (pc := 107) C dX5_findLeast_107 ?_
        obtain ⟨pl_least_108, hc_108, hf⟩ := Option.bind_eq_some_iff.mp hf
        refine g_callV (pc := 108) C hl0 (wr := [((aRd 0), .inr (6, [.ref (aRd 1), .ref (aRd 2), .ref (aRd 3), .ref (aRd 4), .ref (aRd 5), .int (zI rd_acts), .int (zI rd_total), .int (zI rd_drive), .int (zI rd_runs)]))]) (k' := 0) (n' := 0) (ws' := fun _ => [((aRd 0), .inr (6, [.ref (aRd 1), .ref (aRd 2), .ref (aRd 3), .ref (aRd 4), .ref (aRd 5), .int (zI rd_acts), .int (zI rd_total), .int (zI rd_drive), .int (zI rd_runs)])), ((aLw 0), .inr (4, [.ref (aLw 1), .ref (aLw 2)])), ((aLw 1), .inl (ca 0, 11, .inl (zA lw_numbers))), ((aPl 0), .inr (5, [.ref (aLw 0), .ref (aRd 0), .ref (aDy 0), .ref (aPl 4), .ref (aPl 5), .ref (aPl 6), .ref (aPl 7), .ref (aPl 8), .int (zI pl_marks), .int (zI pl_mostTaken), .int (zI pl_mostExtended), .ref aLe])), ((aPl 4), .inl (ca 0, 62, .inl (zA pl_minute))), ((aPl 5), .inl (ca 0, 62, .inl (zA pl_drive))), ((aPl 6), .inl (ca 0, 62, .inl (zA pl_enough))), ((aPl 7), .inl (ca 0, 62, .inl (zA pl_endedBy))), ((aPl 8), .inl (ca 2, 62, .inr (.inl (zB pl_ownPrice)))), (aLe, .inl (ca 2, pl_L, .inr (.inl (zB pl_least_108))))]) (st' := []) (kX5_offer l D ca aLw aPl aRd aDy aLe lw_numbers pl_minute pl_drive pl_enough pl_endedBy pl_ownPrice pl_marks pl_mostTaken pl_mostExtended pl_least_100 pl_L v1 v5 1 pl_least_108 hc_108) wml_RX5_123 wim_X5_offer wse_X5_offer win_RX5 wco_X5_offer (nA := 3) rfl (by decide +kernel)  ⟨(Nat.le_of_ble_eq_true rfl), (Nat.le_of_ble_eq_true rfl)⟩ (Nat.le_refl _) (Nat.le_refl _) rfl (Nat.le_of_ble_eq_true rfl) dX5_findLeast_108 3 5 rfl rfl rfl [1, 2, 3, 4, 5, 6, 7, 8, 9] [0] rfl rfl rfl (by decide) (by decide) (by decide) rfl rfl (fun _ => rfl) rfl (fun _ => ?_)
        refine g_iinc (pc := 111) C 3 (lv' := [(5, .int (zI (v5 + 1))), (0, .ref (aPl 0)), (1, .int (zI v1)), (4, .int (zI v4))]) dX5_findLeast_111 rfl (Nat.le_of_ble_eq_true rfl) rfl ?_
        refine g_goto (pc := 114) C (tgt := 88) dX5_findLeast_114 (by decide) ?_
        refine g_sub [1, 2, 3, 4, 5, 6, 7, 8, 9, 0] [1, 2, 3, 0] (by decide) rfl rfl rfl ?_
        exact ih88 _ _ hf
  have H41 : ∀ (v2 : Int) (v3 : Int) (n41 : Nat) (v4 : Int) (pl_least : Nat → Int), zlp (fX5_findLeast_41 v1 v2 v3 lw_numbers pl_minute pl_drive pl_enough pl_endedBy pl_ownPrice pl_marks pl_mostTaken pl_mostExtended pl_L) n41 (v4, pl_least) = some Ro → Zd D Γ 0 0 [((aLw 0), .inr (4, [.ref (aLw 1), .ref (aLw 2)])), ((aLw 1), .inl (ca 0, 11, .inl (zA lw_numbers))), ((aPl 0), .inr (5, [.ref (aLw 0), .ref (aRd 0), .ref (aDy 0), .ref (aPl 4), .ref (aPl 5), .ref (aPl 6), .ref (aPl 7), .ref (aPl 8), .int (zI pl_marks), .int (zI pl_mostTaken), .int (zI pl_mostExtended), .ref aLe])), ((aPl 4), .inl (ca 0, 62, .inl (zA pl_minute))), ((aPl 5), .inl (ca 0, 62, .inl (zA pl_drive))), ((aPl 6), .inl (ca 0, 62, .inl (zA pl_enough))), ((aPl 7), .inl (ca 0, 62, .inl (zA pl_endedBy))), ((aPl 8), .inl (ca 2, 62, .inr (.inl (zB pl_ownPrice)))), (aLe, .inl (ca 2, pl_L, .inr (.inl (zB pl_least)))), ((aRd 0), .inr (6, [.ref (aRd 1), .ref (aRd 2), .ref (aRd 3), .ref (aRd 4), .ref (aRd 5), .int (zI rd_acts), .int (zI rd_total), .int (zI rd_drive), .int (zI rd_runs)]))] 41 [(0, .ref (aPl 0)), (1, .int (zI v1)), (2, .int (zI v2)), (3, .int (zI v3)), (4, .int (zI v4))] [] := by
    intro v2 v3
    intro n41
    induction n41 with
    | zero =>
      intro v4 pl_least hf
      exact zno hf
    | succ n41 ih41 =>
      have H64 : ∀ (v4 : Int) (s1 : Int) (s2 : Int) (pl_least : Nat → Int), fX5_findLeast_64 (zlp (fX5_findLeast_41 v1 v2 v3 lw_numbers pl_minute pl_drive pl_enough pl_endedBy pl_ownPrice pl_marks pl_mostTaken pl_mostExtended pl_L) n41) v4 s1 s2 pl_least pl_L = some Ro → Zd D Γ 0 0 [((aLw 0), .inr (4, [.ref (aLw 1), .ref (aLw 2)])), ((aLw 1), .inl (ca 0, 11, .inl (zA lw_numbers))), ((aPl 0), .inr (5, [.ref (aLw 0), .ref (aRd 0), .ref (aDy 0), .ref (aPl 4), .ref (aPl 5), .ref (aPl 6), .ref (aPl 7), .ref (aPl 8), .int (zI pl_marks), .int (zI pl_mostTaken), .int (zI pl_mostExtended), .ref aLe])), ((aPl 4), .inl (ca 0, 62, .inl (zA pl_minute))), ((aPl 5), .inl (ca 0, 62, .inl (zA pl_drive))), ((aPl 6), .inl (ca 0, 62, .inl (zA pl_enough))), ((aPl 7), .inl (ca 0, 62, .inl (zA pl_endedBy))), ((aPl 8), .inl (ca 2, 62, .inr (.inl (zB pl_ownPrice)))), (aLe, .inl (ca 2, pl_L, .inr (.inl (zB pl_least)))), ((aRd 0), .inr (6, [.ref (aRd 1), .ref (aRd 2), .ref (aRd 3), .ref (aRd 4), .ref (aRd 5), .int (zI rd_acts), .int (zI rd_total), .int (zI rd_drive), .int (zI rd_runs)]))] 64 [(0, .ref (aPl 0)), (1, .int (zI v1)), (2, .int (zI v2)), (3, .int (zI v3)), (4, .int (zI v4))] [.long (zJ s2), .int (zI s1), .ref aLe] := by
        intro v4 s1 s2 pl_least hf
        unfold fX5_findLeast_64 at hf
        refine g_last (pc := 64) C (N := (pl_L : Int)) (ws' := [((aLw 0), .inr (4, [.ref (aLw 1), .ref (aLw 2)])), ((aLw 1), .inl (ca 0, 11, .inl (zA lw_numbers))), ((aPl 0), .inr (5, [.ref (aLw 0), .ref (aRd 0), .ref (aDy 0), .ref (aPl 4), .ref (aPl 5), .ref (aPl 6), .ref (aPl 7), .ref (aPl 8), .int (zI pl_marks), .int (zI pl_mostTaken), .int (zI pl_mostExtended), .ref aLe])), ((aPl 4), .inl (ca 0, 62, .inl (zA pl_minute))), ((aPl 5), .inl (ca 0, 62, .inl (zA pl_drive))), ((aPl 6), .inl (ca 0, 62, .inl (zA pl_enough))), ((aPl 7), .inl (ca 0, 62, .inl (zA pl_endedBy))), ((aPl 8), .inl (ca 2, 62, .inr (.inl (zB pl_ownPrice)))), (aLe, .inl (ca 2, pl_L, .inr (.inl (zB (zU pl_least s1.toNat s2))))), ((aRd 0), .inr (6, [.ref (aRd 1), .ref (aRd 2), .ref (aRd 3), .ref (aRd 4), .ref (aRd 5), .int (zI rd_acts), .int (zI rd_total), .int (zI rd_drive), .int (zI rd_runs)]))]) 8 rfl rfl rfl dX5_findLeast_64 hf (fun hf => ?_)
        refine g_iinc (pc := 65) C 4 (lv' := [(4, .int (zI (v4 + 1))), (0, .ref (aPl 0)), (1, .int (zI v1)), (2, .int (zI v2)), (3, .int (zI v3))]) dX5_findLeast_65 rfl (Nat.le_of_ble_eq_true rfl) rfl ?_
        refine g_goto (pc := 68) C (tgt := 41) dX5_findLeast_68 (by decide) ?_
        refine g_sub [0, 1, 2, 3, 4, 5, 6, 7, 8, 9] [1, 2, 3, 4, 0] (by decide) rfl rfl rfl ?_
        exact ih41 _ _ hf
      intro v4 pl_least hf
      rw [zlp_s] at hf
      unfold fX5_findLeast_41 at hf
      dsimp only at hf
      refine g_iload (pc := 41) C 4 dX5_findLeast_41 rfl ?_
      refine g_iload_n (pc := 43) C 3 dX5_findLeast_43 rfl rfl ?_
      refine g_icmp_ge (pc := 44) C (tgt := 71) dX5_findLeast_44 (by decide) hf (fun hf => ?_) (fun hf => ?_)
      · refine g_iload_n (pc := 71) C 2 dX5_findLeast_71 rfl rfl ?_
        refine g_if_eq (pc := 72) C (tgt := 76) dX5_findLeast_72 (by decide) hf (fun hf => ?_) (fun hf => ?_)
        · refine g_aload_n (pc := 76) C 0 dX5_findLeast_76 rfl rfl ?_
          refine g_iload_n (pc := 77) C 1 dX5_findLeast_77 rfl rfl ?_
          obtain ⟨r_78, hc_78, hf⟩ := Option.bind_eq_some_iff.mp hf
          refine g_callV (pc := 78) C hl0 (wr := [((aLw 0), .inr (4, [.ref (aLw 1), .ref (aLw 2)])), ((aLw 1), .inl (ca 0, 11, .inl (zA lw_numbers))), ((aPl 4), .inl (ca 0, 62, .inl (zA pl_minute))), ((aPl 5), .inl (ca 0, 62, .inl (zA pl_drive))), ((aPl 6), .inl (ca 0, 62, .inl (zA pl_enough))), ((aPl 8), .inl (ca 2, 62, .inr (.inl (zB pl_ownPrice)))), (aLe, .inl (ca 2, pl_L, .inr (.inl (zB pl_least)))), ((aRd 0), .inr (6, [.ref (aRd 1), .ref (aRd 2), .ref (aRd 3), .ref (aRd 4), .ref (aRd 5), .int (zI rd_acts), .int (zI rd_total), .int (zI rd_drive), .int (zI rd_runs)]))]) (k' := 0) (n' := 0) (ws' := fun _ => [((aLw 0), .inr (4, [.ref (aLw 1), .ref (aLw 2)])), ((aLw 1), .inl (ca 0, 11, .inl (zA lw_numbers))), ((aPl 4), .inl (ca 0, 62, .inl (zA pl_minute))), ((aPl 5), .inl (ca 0, 62, .inl (zA pl_drive))), ((aPl 6), .inl (ca 0, 62, .inl (zA pl_enough))), ((aPl 8), .inl (ca 2, 62, .inr (.inl (zB pl_ownPrice)))), (aLe, .inl (ca 2, pl_L, .inr (.inl (zB pl_least)))), ((aRd 0), .inr (6, [.ref (aRd 1), .ref (aRd 2), .ref (aRd 3), .ref (aRd 4), .ref (aRd 5), .int (zI rd_acts), .int (zI rd_total), .int (zI rd_drive), .int (zI rd_runs)])), ((aPl 0), .inr (5, [.ref (aLw 0), .ref (aRd 0), .ref (aDy 0), .ref (aPl 4), .ref (aPl 5), .ref (aPl 6), .ref (aPl 7), .ref (aPl 8), .int (zI pl_marks), .int (zI pl_mostTaken), .int (zI pl_mostExtended), .ref aLe])), ((aPl 7), .inl (ca 0, 62, .inl (zA pl_endedBy)))]) (st' := [.int (zI r_78)]) (kX5_lastEnd l D ca aPl aLw aRd aDy aLe pl_endedBy pl_marks pl_mostTaken pl_mostExtended v1 r_78 hc_78) wml_RX5_120 wim_X5_lastEnd wse_X5_lastEnd win_RX5 wco_X5_lastEnd (nA := 1) rfl (by decide +kernel)  ⟨(Nat.le_of_ble_eq_true rfl), (Nat.le_of_ble_eq_true rfl)⟩ (Nat.le_refl _) (Nat.le_refl _) rfl (Nat.le_of_ble_eq_true rfl) dX5_findLeast_78 2 5 rfl rfl rfl [2, 6] [0, 1, 3, 4, 5, 7, 8, 9] rfl rfl rfl (by decide) (by decide) (by decide) rfl rfl (fun _ => rfl) rfl (fun _ => ?_)
          refine g_istore (pc := 81) C (lv' := [(4, .int (zI r_78)), (0, .ref (aPl 0)), (1, .int (zI v1)), (2, .int (zI v2)), (3, .int (zI v3))]) dX5_findLeast_81 (Nat.le_of_ble_eq_true rfl) rfl ?_
          refine g_iload_n (pc := 83) C 2 dX5_findLeast_83 rfl rfl ?_
          refine g_iconst (pc := 84) C dX5_findLeast_84 ?_
          refine g_iadd (pc := 85) C dX5_findLeast_85 ?_
          refine g_istore (pc := 86) C (lv' := [(5, .int (zI (v1 + 1))), (4, .int (zI r_78)), (0, .ref (aPl 0)), (1, .int (zI v1)), (2, .int (zI v2)), (3, .int (zI v3))]) dX5_findLeast_86 (Nat.le_of_ble_eq_true rfl) rfl ?_
          refine g_sub [0, 1, 8, 2, 3, 4, 9, 5, 6, 7] [2, 3, 1, 0] (by decide) rfl rfl rfl ?_
          exact H88 _ _ _ _ hf
        · exact g_vret (pc := 75) C hf E rfl (fun _ => 0) [0, 1, 2, 3, 4, 5, 6, 7, 8, 9] (by decide) rfl rfl (Nat.le_refl _) (Nat.le_refl _) dX5_findLeast_75
      · refine g_aload_n (pc := 47) C 0 dX5_findLeast_47 rfl rfl ?_
        refine g_get (pc := 48) C zf_X5_38 2 rfl rfl dX5_findLeast_48 ?_
        refine g_iload (pc := 51) C 4 dX5_findLeast_51 rfl ?_
        refine g_iload_n (pc := 53) C 2 dX5_findLeast_53 rfl rfl ?_
        refine g_if_eq (pc := 54) C (tgt := 61) dX5_findLeast_54 (by decide) hf (fun hf => ?_) (fun hf => ?_)
        · refine g_ldc2 (pc := 61) C (x := 1152921504606846976) dX5_findLeast_61 wkl_RX5_118 (by decide) ?_
          exact H64 _ _ _ _ hf
        · refine g_lconst (pc := 57) C (x := 0) dX5_findLeast_57 (by decide) ?_
          refine g_goto (pc := 58) C (tgt := 64) dX5_findLeast_58 (by decide) ?_
          exact H64 _ _ _ _ hf
  have H21 : ∀ (s0 : Int) (pl_least : Nat → Int), fX5_findLeast_21 v1 s0 lw_numbers pl_minute pl_drive pl_enough pl_endedBy pl_ownPrice pl_marks pl_mostTaken pl_mostExtended pl_least pl_L = some Ro → Zd D Γ 0 0 [((aLw 0), .inr (4, [.ref (aLw 1), .ref (aLw 2)])), ((aLw 1), .inl (ca 0, 11, .inl (zA lw_numbers))), ((aPl 0), .inr (5, [.ref (aLw 0), .ref (aRd 0), .ref (aDy 0), .ref (aPl 4), .ref (aPl 5), .ref (aPl 6), .ref (aPl 7), .ref (aPl 8), .int (zI pl_marks), .int (zI pl_mostTaken), .int (zI pl_mostExtended), .ref aLe])), ((aPl 4), .inl (ca 0, 62, .inl (zA pl_minute))), ((aPl 5), .inl (ca 0, 62, .inl (zA pl_drive))), ((aPl 6), .inl (ca 0, 62, .inl (zA pl_enough))), ((aPl 7), .inl (ca 0, 62, .inl (zA pl_endedBy))), ((aPl 8), .inl (ca 2, 62, .inr (.inl (zB pl_ownPrice)))), (aLe, .inl (ca 2, pl_L, .inr (.inl (zB pl_least)))), ((aRd 0), .inr (6, [.ref (aRd 1), .ref (aRd 2), .ref (aRd 3), .ref (aRd 4), .ref (aRd 5), .int (zI rd_acts), .int (zI rd_total), .int (zI rd_drive), .int (zI rd_runs)]))] 21 [(0, .ref (aPl 0)), (1, .int (zI v1))] [.int (zI s0)] := by
    intro s0 pl_least hf
    unfold fX5_findLeast_21 at hf
    refine g_istore_n (pc := 21) C (lv' := [(2, .int (zI s0)), (0, .ref (aPl 0)), (1, .int (zI v1))]) dX5_findLeast_21 rfl (Nat.le_of_ble_eq_true rfl) rfl ?_
    refine g_aload_n (pc := 22) C 1 dX5_findLeast_22 rfl rfl ?_
    refine g_iload_n (pc := 23) C 2 dX5_findLeast_23 rfl rfl ?_
    refine g_iconst (pc := 24) C dX5_findLeast_24 ?_
    refine g_iadd (pc := 25) C dX5_findLeast_25 ?_
    refine g_iconst (pc := 26) C dX5_findLeast_26 ?_
    refine g_iconst (pc := 27) C dX5_findLeast_27 ?_
    obtain ⟨r_28, hc_28, hf⟩ := Option.bind_eq_some_iff.mp hf
    refine g_callV (pc := 28) C hl0 (wr := [((aLw 0), .inr (4, [.ref (aLw 1), .ref (aLw 2)])), ((aLw 1), .inl (ca 0, 11, .inl (zA lw_numbers))), ((aPl 4), .inl (ca 0, 62, .inl (zA pl_minute))), ((aPl 5), .inl (ca 0, 62, .inl (zA pl_drive))), ((aPl 6), .inl (ca 0, 62, .inl (zA pl_enough))), ((aPl 7), .inl (ca 0, 62, .inl (zA pl_endedBy))), ((aPl 8), .inl (ca 2, 62, .inr (.inl (zB pl_ownPrice)))), (aLe, .inl (ca 2, pl_L, .inr (.inl (zB pl_least)))), ((aRd 0), .inr (6, [.ref (aRd 1), .ref (aRd 2), .ref (aRd 3), .ref (aRd 4), .ref (aRd 5), .int (zI rd_acts), .int (zI rd_total), .int (zI rd_drive), .int (zI rd_runs)]))]) (k' := 0) (n' := 0) (ws' := fun _ => [((aLw 0), .inr (4, [.ref (aLw 1), .ref (aLw 2)])), ((aLw 1), .inl (ca 0, 11, .inl (zA lw_numbers))), ((aPl 4), .inl (ca 0, 62, .inl (zA pl_minute))), ((aPl 5), .inl (ca 0, 62, .inl (zA pl_drive))), ((aPl 6), .inl (ca 0, 62, .inl (zA pl_enough))), ((aPl 7), .inl (ca 0, 62, .inl (zA pl_endedBy))), ((aPl 8), .inl (ca 2, 62, .inr (.inl (zB pl_ownPrice)))), (aLe, .inl (ca 2, pl_L, .inr (.inl (zB pl_least)))), ((aRd 0), .inr (6, [.ref (aRd 1), .ref (aRd 2), .ref (aRd 3), .ref (aRd 4), .ref (aRd 5), .int (zI rd_acts), .int (zI rd_total), .int (zI rd_drive), .int (zI rd_runs)])), ((aPl 0), .inr (5, [.ref (aLw 0), .ref (aRd 0), .ref (aDy 0), .ref (aPl 4), .ref (aPl 5), .ref (aPl 6), .ref (aPl 7), .ref (aPl 8), .int (zI pl_marks), .int (zI pl_mostTaken), .int (zI pl_mostExtended), .ref aLe]))]) (st' := [.int (zI r_28)]) (kX5_placeOf l D ca aPl aLw aRd aDy aLe pl_marks pl_mostTaken pl_mostExtended (v1 + 1) 0 0 r_28 hc_28) wml_RX5_111 wim_X5_placeOf wse_X5_placeOf win_RX5 wco_X5_placeOf (nA := 3) rfl (by decide +kernel)  ⟨(Nat.le_of_ble_eq_true rfl), (Nat.le_of_ble_eq_true rfl)⟩ (Nat.le_refl _) (Nat.le_refl _) rfl (Nat.le_of_ble_eq_true rfl) dX5_findLeast_28 2 5 rfl rfl rfl [2] [0, 1, 3, 4, 5, 6, 7, 8, 9] rfl rfl rfl (by decide) (by decide) (by decide) rfl rfl (fun _ => rfl) rfl (fun _ => ?_)
    refine g_istore_n (pc := 31) C (lv' := [(3, .int (zI r_28)), (2, .int (zI s0)), (0, .ref (aPl 0)), (1, .int (zI v1))]) dX5_findLeast_31 rfl (Nat.le_of_ble_eq_true rfl) rfl ?_
    refine g_aload_n (pc := 32) C 2 dX5_findLeast_32 rfl rfl ?_
    refine g_iload_n (pc := 33) C 3 dX5_findLeast_33 rfl rfl ?_
    refine g_iconst (pc := 34) C dX5_findLeast_34 ?_
    refine g_iconst (pc := 35) C dX5_findLeast_35 ?_
    obtain ⟨r_36, hc_36, hf⟩ := Option.bind_eq_some_iff.mp hf
    refine g_callV (pc := 36) C hl0 (wr := [((aLw 0), .inr (4, [.ref (aLw 1), .ref (aLw 2)])), ((aLw 1), .inl (ca 0, 11, .inl (zA lw_numbers))), ((aPl 4), .inl (ca 0, 62, .inl (zA pl_minute))), ((aPl 5), .inl (ca 0, 62, .inl (zA pl_drive))), ((aPl 6), .inl (ca 0, 62, .inl (zA pl_enough))), ((aPl 7), .inl (ca 0, 62, .inl (zA pl_endedBy))), ((aPl 8), .inl (ca 2, 62, .inr (.inl (zB pl_ownPrice)))), (aLe, .inl (ca 2, pl_L, .inr (.inl (zB pl_least)))), ((aRd 0), .inr (6, [.ref (aRd 1), .ref (aRd 2), .ref (aRd 3), .ref (aRd 4), .ref (aRd 5), .int (zI rd_acts), .int (zI rd_total), .int (zI rd_drive), .int (zI rd_runs)]))]) (k' := 0) (n' := 0) (ws' := fun _ => [((aLw 0), .inr (4, [.ref (aLw 1), .ref (aLw 2)])), ((aLw 1), .inl (ca 0, 11, .inl (zA lw_numbers))), ((aPl 4), .inl (ca 0, 62, .inl (zA pl_minute))), ((aPl 5), .inl (ca 0, 62, .inl (zA pl_drive))), ((aPl 6), .inl (ca 0, 62, .inl (zA pl_enough))), ((aPl 7), .inl (ca 0, 62, .inl (zA pl_endedBy))), ((aPl 8), .inl (ca 2, 62, .inr (.inl (zB pl_ownPrice)))), (aLe, .inl (ca 2, pl_L, .inr (.inl (zB pl_least)))), ((aRd 0), .inr (6, [.ref (aRd 1), .ref (aRd 2), .ref (aRd 3), .ref (aRd 4), .ref (aRd 5), .int (zI rd_acts), .int (zI rd_total), .int (zI rd_drive), .int (zI rd_runs)])), ((aPl 0), .inr (5, [.ref (aLw 0), .ref (aRd 0), .ref (aDy 0), .ref (aPl 4), .ref (aPl 5), .ref (aPl 6), .ref (aPl 7), .ref (aPl 8), .int (zI pl_marks), .int (zI pl_mostTaken), .int (zI pl_mostExtended), .ref aLe]))]) (st' := [.int (zI r_36)]) (kX5_placeOf l D ca aPl aLw aRd aDy aLe pl_marks pl_mostTaken pl_mostExtended v1 0 0 r_36 hc_36) wml_RX5_111 wim_X5_placeOf wse_X5_placeOf win_RX5 wco_X5_placeOf (nA := 3) rfl (by decide +kernel)  ⟨(Nat.le_of_ble_eq_true rfl), (Nat.le_of_ble_eq_true rfl)⟩ (Nat.le_refl _) (Nat.le_refl _) rfl (Nat.le_of_ble_eq_true rfl) dX5_findLeast_36 9 5 rfl rfl rfl [9] [0, 1, 2, 3, 4, 5, 6, 7, 8] rfl rfl rfl (by decide) (by decide) (by decide) rfl rfl (fun _ => rfl) rfl (fun _ => ?_)
    refine g_istore (pc := 39) C (lv' := [(4, .int (zI r_36)), (3, .int (zI r_28)), (2, .int (zI s0)), (0, .ref (aPl 0)), (1, .int (zI v1))]) dX5_findLeast_39 (Nat.le_of_ble_eq_true rfl) rfl ?_
    refine g_sub [0, 1, 9, 2, 3, 4, 5, 6, 7, 8] [3, 4, 2, 1, 0] (by decide) rfl rfl rfl ?_
    exact H41 _ _ _ _ _ hf
  unfold fX5_findLeast at hf
  refine g_aload_n (pc := 0) C 0 dX5_findLeast_0 rfl rfl ?_
  refine g_get (pc := 1) C zf_X5_11 2 rfl rfl dX5_findLeast_1 ?_
  refine g_iload_n (pc := 4) C 1 dX5_findLeast_4 rfl rfl ?_
  refine g_iald (pc := 5) C (N := 62) 3 rfl rfl (Nat.le_of_ble_eq_true rfl) dX5_findLeast_5 hf (fun hf => ?_)
  refine g_aload_n (pc := 6) C 0 dX5_findLeast_6 rfl rfl ?_
  refine g_get (pc := 7) C zf_X5_45 2 rfl rfl dX5_findLeast_7 ?_
  refine g_get (pc := 10) C zf_X5_91 9 rfl rfl dX5_findLeast_10 ?_
  refine g_icmp_lt (pc := 13) C (tgt := 20) dX5_findLeast_13 (by decide) hf (fun hf => ?_) (fun hf => ?_)
  · refine g_iconst (pc := 20) C dX5_findLeast_20 ?_
    exact H21 _ _ hf
  · refine g_iconst (pc := 16) C dX5_findLeast_16 ?_
    refine g_goto (pc := 17) C (tgt := 21) dX5_findLeast_17 (by decide) ?_
    exact H21 _ _ hf
def oX5_findMarks (ca : Nat → ClassId) (aLw : Nat → Nat) (aPl : Nat → Nat) (aRd : Nat → Nat) (aDy : Nat → Nat) (aLe : Nat) (lw_numbers : Nat → Int) (rd_runFrom : Nat → Int) (rd_runTo : Nat → Int) (rd_runDrive : Nat → Int) (rd_acts : Int) (rd_total : Int) (rd_drive : Int) (rd_runs : Int) (Ro : (Nat → Int) × (Nat → Int) × (Nat → Int) × (Nat → Int) × (Nat → Int) × Int × Int × Int) : (Nat → Nat) → va_W := fun _ => [((aLw 0), .inr (4, [.ref (aLw 1), .ref (aLw 2)])), ((aLw 1), .inl (ca 0, 11, .inl (zA lw_numbers))), ((aPl 0), .inr (5, [.ref (aLw 0), .ref (aRd 0), .ref (aDy 0), .ref (aPl 4), .ref (aPl 5), .ref (aPl 6), .ref (aPl 7), .ref (aPl 8), .int (zI (Ro.2.2.2.2.2.1)), .int (zI (Ro.2.2.2.2.2.2.1)), .int (zI (Ro.2.2.2.2.2.2.2)), .ref aLe])), ((aPl 4), .inl (ca 0, 62, .inl (zA (Ro.1)))), ((aPl 5), .inl (ca 0, 62, .inl (zA (Ro.2.1)))), ((aPl 6), .inl (ca 0, 62, .inl (zA (Ro.2.2.1)))), ((aPl 7), .inl (ca 0, 62, .inl (zA (Ro.2.2.2.1)))), ((aPl 8), .inl (ca 2, 62, .inr (.inl (zB (Ro.2.2.2.2.1))))), ((aRd 0), .inr (6, [.ref (aRd 1), .ref (aRd 2), .ref (aRd 3), .ref (aRd 4), .ref (aRd 5), .int (zI rd_acts), .int (zI rd_total), .int (zI rd_drive), .int (zI rd_runs)])), ((aRd 3), .inl (ca 0, 60, .inl (zA rd_runFrom))), ((aRd 4), .inl (ca 0, 60, .inl (zA rd_runTo))), ((aRd 5), .inl (ca 0, 60, .inl (zA rd_runDrive)))]
def oiX5_findMarks (Ro : (Nat → Int) × (Nat → Int) × (Nat → Int) × (Nat → Int) × (Nat → Int) × Int × Int × Int) : Option Value := none
set_option maxRecDepth 100000 in
theorem kX5_findMarks (l : Launch) (D : va_G) (ca : Nat → ClassId) (aLw : Nat → Nat) (aPl : Nat → Nat) (aRd : Nat → Nat) (aDy : Nat → Nat) (aLe : Nat) (lw_numbers : Nat → Int) (pl_minute : Nat → Int) (pl_drive : Nat → Int) (pl_enough : Nat → Int) (pl_endedBy : Nat → Int) (pl_ownPrice : Nat → Int) (pl_marks : Int) (pl_mostTaken : Int) (pl_mostExtended : Int) (rd_runFrom : Nat → Int) (rd_runTo : Nat → Int) (rd_runDrive : Nat → Int) (rd_acts : Int) (rd_total : Int) (rd_drive : Int) (rd_runs : Int)  (Ro : (Nat → Int) × (Nat → Int) × (Nat → Int) × (Nat → Int) × (Nat → Int) × Int × Int × Int)
    (hf : fX5_findMarks lw_numbers pl_minute pl_drive pl_enough pl_endedBy pl_ownPrice pl_marks pl_mostTaken pl_mostExtended rd_runFrom rd_runTo rd_runDrive rd_total rd_drive rd_runs = some Ro) : Zc l D ca yX5_findMarks cX5_findMarks 4 none { frames := 2, cells := 0, slots := 0, locals := 51 } [.ref (aPl 0)] [((aLw 0), .inr (4, [.ref (aLw 1), .ref (aLw 2)])), ((aLw 1), .inl (ca 0, 11, .inl (zA lw_numbers))), ((aPl 0), .inr (5, [.ref (aLw 0), .ref (aRd 0), .ref (aDy 0), .ref (aPl 4), .ref (aPl 5), .ref (aPl 6), .ref (aPl 7), .ref (aPl 8), .int (zI pl_marks), .int (zI pl_mostTaken), .int (zI pl_mostExtended), .ref aLe])), ((aPl 4), .inl (ca 0, 62, .inl (zA pl_minute))), ((aPl 5), .inl (ca 0, 62, .inl (zA pl_drive))), ((aPl 6), .inl (ca 0, 62, .inl (zA pl_enough))), ((aPl 7), .inl (ca 0, 62, .inl (zA pl_endedBy))), ((aPl 8), .inl (ca 2, 62, .inr (.inl (zB pl_ownPrice)))), ((aRd 0), .inr (6, [.ref (aRd 1), .ref (aRd 2), .ref (aRd 3), .ref (aRd 4), .ref (aRd 5), .int (zI rd_acts), .int (zI rd_total), .int (zI rd_drive), .int (zI rd_runs)])), ((aRd 3), .inl (ca 0, 60, .inl (zA rd_runFrom))), ((aRd 4), .inl (ca 0, 60, .inl (zA rd_runTo))), ((aRd 5), .inl (ca 0, 60, .inl (zA rd_runDrive)))] (oiX5_findMarks Ro) (oX5_findMarks ca aLw aPl aRd aDy aLe lw_numbers rd_runFrom rd_runTo rd_runDrive rd_acts rd_total rd_drive rd_runs Ro) := by
  refine ctr_of (lv := [(0, .ref (aPl 0))]) (by decide +kernel) (Nat.le_of_ble_eq_true rfl) rfl (fun Γ hl0 C E hnm => ?_)
  have H18 : ∀ (pl_mostTaken : Int) (pl_mostExtended : Int) (n18 : Nat) (v1 : Int) (v2 : Int) (pl_minute : Nat → Int) (pl_drive : Nat → Int) (pl_enough : Nat → Int) (pl_endedBy : Nat → Int) (pl_ownPrice : Nat → Int) (pl_marks : Int), zlp (fX5_findMarks_18 lw_numbers rd_runFrom rd_runTo rd_runDrive rd_total rd_drive rd_runs) n18 (v1, v2, pl_minute, pl_drive, pl_enough, pl_endedBy, pl_ownPrice, pl_marks) = some Ro → Zd D Γ 0 0 [((aLw 0), .inr (4, [.ref (aLw 1), .ref (aLw 2)])), ((aLw 1), .inl (ca 0, 11, .inl (zA lw_numbers))), ((aPl 0), .inr (5, [.ref (aLw 0), .ref (aRd 0), .ref (aDy 0), .ref (aPl 4), .ref (aPl 5), .ref (aPl 6), .ref (aPl 7), .ref (aPl 8), .int (zI pl_marks), .int (zI pl_mostTaken), .int (zI pl_mostExtended), .ref aLe])), ((aPl 4), .inl (ca 0, 62, .inl (zA pl_minute))), ((aPl 5), .inl (ca 0, 62, .inl (zA pl_drive))), ((aPl 6), .inl (ca 0, 62, .inl (zA pl_enough))), ((aPl 7), .inl (ca 0, 62, .inl (zA pl_endedBy))), ((aPl 8), .inl (ca 2, 62, .inr (.inl (zB pl_ownPrice)))), ((aRd 0), .inr (6, [.ref (aRd 1), .ref (aRd 2), .ref (aRd 3), .ref (aRd 4), .ref (aRd 5), .int (zI rd_acts), .int (zI rd_total), .int (zI rd_drive), .int (zI rd_runs)])), ((aRd 3), .inl (ca 0, 60, .inl (zA rd_runFrom))), ((aRd 4), .inl (ca 0, 60, .inl (zA rd_runTo))), ((aRd 5), .inl (ca 0, 60, .inl (zA rd_runDrive)))] 18 [(0, .ref (aPl 0)), (1, .int (zI v1)), (2, .int (zI v2))] [] := by
    intro pl_mostTaken pl_mostExtended
    intro n18
    induction n18 with
    | zero =>
      intro v1 v2 pl_minute pl_drive pl_enough pl_endedBy pl_ownPrice pl_marks hf
      exact zno hf
    | succ n18 ih18 =>
      have H120 : ∀ (v1 : Int) (v2 : Int) (pl_minute : Nat → Int) (pl_drive : Nat → Int) (pl_enough : Nat → Int) (pl_endedBy : Nat → Int) (pl_ownPrice : Nat → Int) (pl_marks : Int), fX5_findMarks_120 (zlp (fX5_findMarks_18 lw_numbers rd_runFrom rd_runTo rd_runDrive rd_total rd_drive rd_runs) n18) v1 v2 pl_minute pl_drive pl_enough pl_endedBy pl_ownPrice pl_marks = some Ro → Zd D Γ 0 0 [((aLw 0), .inr (4, [.ref (aLw 1), .ref (aLw 2)])), ((aLw 1), .inl (ca 0, 11, .inl (zA lw_numbers))), ((aPl 0), .inr (5, [.ref (aLw 0), .ref (aRd 0), .ref (aDy 0), .ref (aPl 4), .ref (aPl 5), .ref (aPl 6), .ref (aPl 7), .ref (aPl 8), .int (zI pl_marks), .int (zI pl_mostTaken), .int (zI pl_mostExtended), .ref aLe])), ((aPl 4), .inl (ca 0, 62, .inl (zA pl_minute))), ((aPl 5), .inl (ca 0, 62, .inl (zA pl_drive))), ((aPl 6), .inl (ca 0, 62, .inl (zA pl_enough))), ((aPl 7), .inl (ca 0, 62, .inl (zA pl_endedBy))), ((aPl 8), .inl (ca 2, 62, .inr (.inl (zB pl_ownPrice)))), ((aRd 0), .inr (6, [.ref (aRd 1), .ref (aRd 2), .ref (aRd 3), .ref (aRd 4), .ref (aRd 5), .int (zI rd_acts), .int (zI rd_total), .int (zI rd_drive), .int (zI rd_runs)])), ((aRd 3), .inl (ca 0, 60, .inl (zA rd_runFrom))), ((aRd 4), .inl (ca 0, 60, .inl (zA rd_runTo))), ((aRd 5), .inl (ca 0, 60, .inl (zA rd_runDrive)))] 120 [(0, .ref (aPl 0)), (1, .int (zI v1)), (2, .int (zI v2))] [] := by
        intro v1 v2 pl_minute pl_drive pl_enough pl_endedBy pl_ownPrice pl_marks hf
        unfold fX5_findMarks_120 at hf
        refine g_iinc (pc := 120) C 2 (lv' := [(2, .int (zI (v2 + 1))), (0, .ref (aPl 0)), (1, .int (zI v1))]) dX5_findMarks_120 rfl (Nat.le_of_ble_eq_true rfl) rfl ?_
        refine g_goto (pc := 123) C (tgt := 18) dX5_findMarks_123 (by decide) ?_
        refine g_sub [0, 1, 2, 3, 4, 5, 6, 7, 8, 9, 10, 11] [1, 2, 0] (by decide) rfl rfl rfl ?_
        exact ih18 _ _ _ _ _ _ _ _ hf
      intro v1 v2 pl_minute pl_drive pl_enough pl_endedBy pl_ownPrice pl_marks hf
      rw [zlp_s] at hf
      unfold fX5_findMarks_18 at hf
      dsimp only at hf
      refine g_iload_n (pc := 18) C 2 dX5_findMarks_18 rfl rfl ?_
      refine g_aload_n (pc := 19) C 0 dX5_findMarks_19 rfl rfl ?_
      refine g_get (pc := 20) C zf_X5_45 2 rfl rfl dX5_findMarks_20 ?_
      refine g_get (pc := 23) C zf_X5_69 8 rfl rfl dX5_findMarks_23 ?_
      refine g_icmp_ge (pc := 26) C (tgt := 126) dX5_findMarks_26 (by decide) hf (fun hf => ?_) (fun hf => ?_)
      · refine g_aload_n (pc := 126) C 0 dX5_findMarks_126 rfl rfl ?_
        refine g_aload_n (pc := 127) C 0 dX5_findMarks_127 rfl rfl ?_
        refine g_get (pc := 128) C zf_X5_45 2 rfl rfl dX5_findMarks_128 ?_
        refine g_get (pc := 131) C zf_X5_91 8 rfl rfl dX5_findMarks_131 ?_
        refine g_aload_n (pc := 134) C 0 dX5_findMarks_134 rfl rfl ?_
        refine g_get (pc := 135) C zf_X5_45 2 rfl rfl dX5_findMarks_135 ?_
        refine g_get (pc := 138) C zf_X5_94 8 rfl rfl dX5_findMarks_138 ?_
        refine g_aload_n (pc := 141) C 0 dX5_findMarks_141 rfl rfl ?_
        refine g_get (pc := 142) C zf_X5_45 2 rfl rfl dX5_findMarks_142 ?_
        refine g_get (pc := 145) C zf_X5_91 8 rfl rfl dX5_findMarks_145 ?_
        refine g_iconst (pc := 148) C dX5_findMarks_148 ?_
        refine g_lconst (pc := 149) C (x := 0) dX5_findMarks_149 (by decide) ?_
        obtain ⟨⟨pl_minute_150, pl_drive_150, pl_enough_150, pl_endedBy_150, pl_ownPrice_150, pl_marks_150⟩, hc_150, hf⟩ := Option.bind_eq_some_iff.mp hf
        dsimp only at hf
        refine g_callV (pc := 150) C hl0 (wr := [((aLw 0), .inr (4, [.ref (aLw 1), .ref (aLw 2)])), ((aLw 1), .inl (ca 0, 11, .inl (zA lw_numbers))), ((aRd 0), .inr (6, [.ref (aRd 1), .ref (aRd 2), .ref (aRd 3), .ref (aRd 4), .ref (aRd 5), .int (zI rd_acts), .int (zI rd_total), .int (zI rd_drive), .int (zI rd_runs)])), ((aRd 3), .inl (ca 0, 60, .inl (zA rd_runFrom))), ((aRd 4), .inl (ca 0, 60, .inl (zA rd_runTo))), ((aRd 5), .inl (ca 0, 60, .inl (zA rd_runDrive)))]) (k' := 0) (n' := 0) (ws' := fun _ => [((aLw 0), .inr (4, [.ref (aLw 1), .ref (aLw 2)])), ((aLw 1), .inl (ca 0, 11, .inl (zA lw_numbers))), ((aRd 0), .inr (6, [.ref (aRd 1), .ref (aRd 2), .ref (aRd 3), .ref (aRd 4), .ref (aRd 5), .int (zI rd_acts), .int (zI rd_total), .int (zI rd_drive), .int (zI rd_runs)])), ((aRd 3), .inl (ca 0, 60, .inl (zA rd_runFrom))), ((aRd 4), .inl (ca 0, 60, .inl (zA rd_runTo))), ((aRd 5), .inl (ca 0, 60, .inl (zA rd_runDrive))), ((aPl 0), .inr (5, [.ref (aLw 0), .ref (aRd 0), .ref (aDy 0), .ref (aPl 4), .ref (aPl 5), .ref (aPl 6), .ref (aPl 7), .ref (aPl 8), .int (zI pl_marks_150), .int (zI pl_mostTaken), .int (zI pl_mostExtended), .ref aLe])), ((aPl 4), .inl (ca 0, 62, .inl (zA pl_minute_150))), ((aPl 5), .inl (ca 0, 62, .inl (zA pl_drive_150))), ((aPl 6), .inl (ca 0, 62, .inl (zA pl_enough_150))), ((aPl 7), .inl (ca 0, 62, .inl (zA pl_endedBy_150))), ((aPl 8), .inl (ca 2, 62, .inr (.inl (zB pl_ownPrice_150))))]) (st' := []) (kX5_addMark l D ca aPl aLw aRd aDy aLe pl_minute pl_drive pl_enough pl_endedBy pl_ownPrice pl_marks pl_mostTaken pl_mostExtended rd_total rd_drive rd_total 0 0 (pl_minute_150, pl_drive_150, pl_enough_150, pl_endedBy_150, pl_ownPrice_150, pl_marks_150) hc_150) wml_RX5_65 wim_X5_addMark wse_X5_addMark win_RX5 wco_X5_addMark (nA := 5) rfl (by decide +kernel)  ⟨(Nat.le_of_ble_eq_true rfl), (Nat.le_of_ble_eq_true rfl)⟩ (Nat.le_refl _) (Nat.le_refl _) rfl (Nat.le_of_ble_eq_true rfl) dX5_findMarks_150 2 5 rfl rfl rfl [2, 3, 4, 5, 6, 7] [0, 1, 8, 9, 10, 11] rfl rfl rfl (by decide) (by decide) (by decide) rfl rfl (fun _ => rfl) rfl (fun _ => ?_)
        refine g_aload_n (pc := 153) C 0 dX5_findMarks_153 rfl rfl ?_
        refine g_aload_n (pc := 154) C 0 dX5_findMarks_154 rfl rfl ?_
        refine g_get (pc := 155) C zf_X5_41 6 rfl rfl dX5_findMarks_155 ?_
        refine g_get (pc := 158) C zf_X5_78 0 rfl rfl dX5_findMarks_158 ?_
        refine g_bipush (pc := 161) C dX5_findMarks_161 (by decide) ?_
        refine g_ialdK (pc := 163) C 9 1 rfl rfl (Nat.le_of_ble_eq_true rfl) (Nat.le_of_ble_eq_true rfl) dX5_findMarks_163 ?_
        refine g_iload_n (pc := 164) C 1 dX5_findMarks_164 rfl rfl ?_
        refine g_mmin (pc := 165) C wml_RX5_96 (Nat.le_of_ble_eq_true rfl) (Nat.le_of_ble_eq_true rfl) (Nat.zero_le _) (Nat.zero_le _) dX5_findMarks_165 hf (fun hf => ?_)
        refine g_put (pc := 168) C zf_X5_32 tyX5 tyX5_ok nmX5 (v := .int (zI (min (lw_numbers 9) v1))) (ws' := [((aLw 0), .inr (4, [.ref (aLw 1), .ref (aLw 2)])), ((aLw 1), .inl (ca 0, 11, .inl (zA lw_numbers))), ((aRd 0), .inr (6, [.ref (aRd 1), .ref (aRd 2), .ref (aRd 3), .ref (aRd 4), .ref (aRd 5), .int (zI rd_acts), .int (zI rd_total), .int (zI rd_drive), .int (zI rd_runs)])), ((aRd 3), .inl (ca 0, 60, .inl (zA rd_runFrom))), ((aRd 4), .inl (ca 0, 60, .inl (zA rd_runTo))), ((aRd 5), .inl (ca 0, 60, .inl (zA rd_runDrive))), ((aPl 0), .inr (5, [.ref (aLw 0), .ref (aRd 0), .ref (aDy 0), .ref (aPl 4), .ref (aPl 5), .ref (aPl 6), .ref (aPl 7), .ref (aPl 8), .int (zI pl_marks_150), .int (zI (min (lw_numbers 9) v1)), .int (zI pl_mostExtended), .ref aLe])), ((aPl 4), .inl (ca 0, 62, .inl (zA pl_minute_150))), ((aPl 5), .inl (ca 0, 62, .inl (zA pl_drive_150))), ((aPl 6), .inl (ca 0, 62, .inl (zA pl_enough_150))), ((aPl 7), .inl (ca 0, 62, .inl (zA pl_endedBy_150))), ((aPl 8), .inl (ca 2, 62, .inr (.inl (zB pl_ownPrice_150))))]) 6 rfl rfl rfl rfl rfl (Nat.le_of_ble_eq_true rfl) rfl rfl dX5_findMarks_168 ?_
        refine g_aload_n (pc := 171) C 0 dX5_findMarks_171 rfl rfl ?_
        refine g_aload_n (pc := 172) C 0 dX5_findMarks_172 rfl rfl ?_
        refine g_get (pc := 173) C zf_X5_41 6 rfl rfl dX5_findMarks_173 ?_
        refine g_get (pc := 176) C zf_X5_78 0 rfl rfl dX5_findMarks_176 ?_
        refine g_bipush (pc := 179) C dX5_findMarks_179 (by decide) ?_
        refine g_ialdK (pc := 181) C 6 1 rfl rfl (Nat.le_of_ble_eq_true rfl) (Nat.le_of_ble_eq_true rfl) dX5_findMarks_181 ?_
        refine g_aload_n (pc := 182) C 0 dX5_findMarks_182 rfl rfl ?_
        refine g_get (pc := 183) C zf_X5_28 6 rfl rfl dX5_findMarks_183 ?_
        refine g_mmin (pc := 186) C wml_RX5_96 (Nat.le_of_ble_eq_true rfl) (Nat.le_of_ble_eq_true rfl) (Nat.zero_le _) (Nat.zero_le _) dX5_findMarks_186 hf (fun hf => ?_)
        refine g_put (pc := 189) C zf_X5_35 tyX5 tyX5_ok nmX5 (v := .int (zI (min (lw_numbers 6) pl_marks_150))) (ws' := [((aLw 0), .inr (4, [.ref (aLw 1), .ref (aLw 2)])), ((aLw 1), .inl (ca 0, 11, .inl (zA lw_numbers))), ((aRd 0), .inr (6, [.ref (aRd 1), .ref (aRd 2), .ref (aRd 3), .ref (aRd 4), .ref (aRd 5), .int (zI rd_acts), .int (zI rd_total), .int (zI rd_drive), .int (zI rd_runs)])), ((aRd 3), .inl (ca 0, 60, .inl (zA rd_runFrom))), ((aRd 4), .inl (ca 0, 60, .inl (zA rd_runTo))), ((aRd 5), .inl (ca 0, 60, .inl (zA rd_runDrive))), ((aPl 0), .inr (5, [.ref (aLw 0), .ref (aRd 0), .ref (aDy 0), .ref (aPl 4), .ref (aPl 5), .ref (aPl 6), .ref (aPl 7), .ref (aPl 8), .int (zI pl_marks_150), .int (zI (min (lw_numbers 9) v1)), .int (zI (min (lw_numbers 6) pl_marks_150)), .ref aLe])), ((aPl 4), .inl (ca 0, 62, .inl (zA pl_minute_150))), ((aPl 5), .inl (ca 0, 62, .inl (zA pl_drive_150))), ((aPl 6), .inl (ca 0, 62, .inl (zA pl_enough_150))), ((aPl 7), .inl (ca 0, 62, .inl (zA pl_endedBy_150))), ((aPl 8), .inl (ca 2, 62, .inr (.inl (zB pl_ownPrice_150))))]) 6 rfl rfl rfl rfl rfl (Nat.le_of_ble_eq_true rfl) rfl rfl dX5_findMarks_189 ?_
        exact g_vret (pc := 192) C hf E rfl (fun _ => 0) [0, 1, 6, 7, 8, 9, 10, 11, 2, 3, 4, 5] (by decide) rfl rfl (Nat.le_refl _) (Nat.le_refl _) dX5_findMarks_192
      · refine g_aload_n (pc := 29) C 0 dX5_findMarks_29 rfl rfl ?_
        refine g_get (pc := 30) C zf_X5_45 2 rfl rfl dX5_findMarks_30 ?_
        refine g_iload_n (pc := 33) C 2 dX5_findMarks_33 rfl rfl ?_
        obtain ⟨r_34, hc_34, hf⟩ := Option.bind_eq_some_iff.mp hf
        refine g_callV (pc := 34) C hl0 (wr := [((aLw 0), .inr (4, [.ref (aLw 1), .ref (aLw 2)])), ((aLw 1), .inl (ca 0, 11, .inl (zA lw_numbers))), ((aPl 0), .inr (5, [.ref (aLw 0), .ref (aRd 0), .ref (aDy 0), .ref (aPl 4), .ref (aPl 5), .ref (aPl 6), .ref (aPl 7), .ref (aPl 8), .int (zI pl_marks), .int (zI pl_mostTaken), .int (zI pl_mostExtended), .ref aLe])), ((aPl 4), .inl (ca 0, 62, .inl (zA pl_minute))), ((aPl 5), .inl (ca 0, 62, .inl (zA pl_drive))), ((aPl 6), .inl (ca 0, 62, .inl (zA pl_enough))), ((aPl 7), .inl (ca 0, 62, .inl (zA pl_endedBy))), ((aPl 8), .inl (ca 2, 62, .inr (.inl (zB pl_ownPrice)))), ((aRd 5), .inl (ca 0, 60, .inl (zA rd_runDrive)))]) (k' := 0) (n' := 0) (ws' := fun _ => [((aLw 0), .inr (4, [.ref (aLw 1), .ref (aLw 2)])), ((aLw 1), .inl (ca 0, 11, .inl (zA lw_numbers))), ((aPl 0), .inr (5, [.ref (aLw 0), .ref (aRd 0), .ref (aDy 0), .ref (aPl 4), .ref (aPl 5), .ref (aPl 6), .ref (aPl 7), .ref (aPl 8), .int (zI pl_marks), .int (zI pl_mostTaken), .int (zI pl_mostExtended), .ref aLe])), ((aPl 4), .inl (ca 0, 62, .inl (zA pl_minute))), ((aPl 5), .inl (ca 0, 62, .inl (zA pl_drive))), ((aPl 6), .inl (ca 0, 62, .inl (zA pl_enough))), ((aPl 7), .inl (ca 0, 62, .inl (zA pl_endedBy))), ((aPl 8), .inl (ca 2, 62, .inr (.inl (zB pl_ownPrice)))), ((aRd 5), .inl (ca 0, 60, .inl (zA rd_runDrive))), ((aRd 0), .inr (6, [.ref (aRd 1), .ref (aRd 2), .ref (aRd 3), .ref (aRd 4), .ref (aRd 5), .int (zI rd_acts), .int (zI rd_total), .int (zI rd_drive), .int (zI rd_runs)])), ((aRd 3), .inl (ca 0, 60, .inl (zA rd_runFrom))), ((aRd 4), .inl (ca 0, 60, .inl (zA rd_runTo)))]) (st' := [.int (zI r_34)]) (kX6_runLength l D ca aRd rd_runFrom rd_runTo rd_acts rd_total rd_drive rd_runs v2 r_34 hc_34) wml_RX5_74 wim_X6_runLength wse_X6_runLength win_RX6 wco_X6_runLength (nA := 1) rfl (by decide +kernel)  ⟨(Nat.le_of_ble_eq_true rfl), (Nat.le_of_ble_eq_true rfl)⟩ (Nat.le_refl _) (Nat.le_refl _) rfl (Nat.le_of_ble_eq_true rfl) dX5_findMarks_34 8 6 rfl rfl rfl [8, 9, 10] [0, 1, 2, 3, 4, 5, 6, 7, 11] rfl rfl rfl (by decide) (by decide) (by decide) rfl rfl (fun _ => rfl) rfl (fun _ => ?_)
        refine g_istore_n (pc := 37) C (lv' := [(3, .int (zI r_34)), (0, .ref (aPl 0)), (1, .int (zI v1)), (2, .int (zI v2))]) dX5_findMarks_37 rfl (Nat.le_of_ble_eq_true rfl) rfl ?_
        refine g_iload_n (pc := 38) C 0 dX5_findMarks_38 rfl rfl ?_
        refine g_aload_n (pc := 39) C 1 dX5_findMarks_39 rfl rfl ?_
        refine g_get (pc := 40) C zf_X5_41 2 rfl rfl dX5_findMarks_40 ?_
        refine g_get (pc := 43) C zf_X5_78 0 rfl rfl dX5_findMarks_43 ?_
        refine g_bipush (pc := 46) C dX5_findMarks_46 (by decide) ?_
        refine g_ialdK (pc := 48) C 7 1 rfl rfl (Nat.le_of_ble_eq_true rfl) (Nat.le_of_ble_eq_true rfl) dX5_findMarks_48 ?_
        refine g_icmp_lt (pc := 49) C (tgt := 72) dX5_findMarks_49 (by decide) hf (fun hf => ?_) (fun hf => ?_)
        · refine g_iload_n (pc := 72) C 0 dX5_findMarks_72 rfl rfl ?_
          refine g_aload_n (pc := 73) C 1 dX5_findMarks_73 rfl rfl ?_
          refine g_get (pc := 74) C zf_X5_41 2 rfl rfl dX5_findMarks_74 ?_
          refine g_get (pc := 77) C zf_X5_78 0 rfl rfl dX5_findMarks_77 ?_
          refine g_bipush (pc := 80) C dX5_findMarks_80 (by decide) ?_
          refine g_ialdK (pc := 82) C 8 1 rfl rfl (Nat.le_of_ble_eq_true rfl) (Nat.le_of_ble_eq_true rfl) dX5_findMarks_82 ?_
          refine g_icmp_lt (pc := 83) C (tgt := 120) dX5_findMarks_83 (by decide) hf (fun hf => ?_) (fun hf => ?_)
          · refine g_sub [0, 1, 2, 3, 4, 5, 6, 7, 9, 10, 11, 8] [1, 2, 3] (by decide) rfl rfl rfl ?_
            exact H120 _ _ _ _ _ _ _ _ hf
          · refine g_iload_n (pc := 86) C 2 dX5_findMarks_86 rfl rfl ?_
            refine g_bipush (pc := 87) C dX5_findMarks_87 (by decide) ?_
            refine g_icmp_ger (pc := 89) C (tgt := 120) dX5_findMarks_89 (by decide) (by decide) hf (fun hf => ?_) (fun hf => ?_)
            · refine g_sub [0, 1, 2, 3, 4, 5, 6, 7, 9, 10, 11, 8] [1, 2, 3] (by decide) rfl rfl rfl ?_
              exact H120 _ _ _ _ _ _ _ _ hf
            · refine g_aload_n (pc := 92) C 1 dX5_findMarks_92 rfl rfl ?_
              refine g_iload_n (pc := 93) C 3 dX5_findMarks_93 rfl rfl ?_
              refine g_aload_n (pc := 94) C 1 dX5_findMarks_94 rfl rfl ?_
              refine g_get (pc := 95) C zf_X5_41 2 rfl rfl dX5_findMarks_95 ?_
              refine g_get (pc := 98) C zf_X5_78 0 rfl rfl dX5_findMarks_98 ?_
              refine g_bipush (pc := 101) C dX5_findMarks_101 (by decide) ?_
              refine g_ialdK (pc := 103) C 8 1 rfl rfl (Nat.le_of_ble_eq_true rfl) (Nat.le_of_ble_eq_true rfl) dX5_findMarks_103 ?_
              refine g_iconst (pc := 104) C dX5_findMarks_104 ?_
              refine g_ldc2 (pc := 105) C (x := 262144) dX5_findMarks_105 wkl_RX5_87 (by decide) ?_
              refine g_ldc2 (pc := 108) C (x := 2048) dX5_findMarks_108 wkl_RX5_89 (by decide) ?_
              refine g_iload_n (pc := 111) C 2 dX5_findMarks_111 rfl rfl ?_
              refine g_lshr (pc := 112) C dX5_findMarks_112 ?_
              refine g_lsub (pc := 113) C dX5_findMarks_113 ?_
              obtain ⟨⟨pl_minute_114, pl_drive_114, pl_enough_114, pl_endedBy_114, pl_ownPrice_114, pl_marks_114⟩, hc_114, hf⟩ := Option.bind_eq_some_iff.mp hf
              dsimp only at hf
              refine g_callV (pc := 114) C hl0 (wr := [((aLw 0), .inr (4, [.ref (aLw 1), .ref (aLw 2)])), ((aLw 1), .inl (ca 0, 11, .inl (zA lw_numbers)))]) (k' := 0) (n' := 0) (ws' := fun _ => [((aLw 0), .inr (4, [.ref (aLw 1), .ref (aLw 2)])), ((aLw 1), .inl (ca 0, 11, .inl (zA lw_numbers))), ((aPl 0), .inr (5, [.ref (aLw 0), .ref (aRd 0), .ref (aDy 0), .ref (aPl 4), .ref (aPl 5), .ref (aPl 6), .ref (aPl 7), .ref (aPl 8), .int (zI pl_marks_114), .int (zI pl_mostTaken), .int (zI pl_mostExtended), .ref aLe])), ((aPl 4), .inl (ca 0, 62, .inl (zA pl_minute_114))), ((aPl 5), .inl (ca 0, 62, .inl (zA pl_drive_114))), ((aPl 6), .inl (ca 0, 62, .inl (zA pl_enough_114))), ((aPl 7), .inl (ca 0, 62, .inl (zA pl_endedBy_114))), ((aPl 8), .inl (ca 2, 62, .inr (.inl (zB pl_ownPrice_114)))), ((aRd 0), .inr (6, [.ref (aRd 1), .ref (aRd 2), .ref (aRd 3), .ref (aRd 4), .ref (aRd 5), .int (zI rd_acts), .int (zI rd_total), .int (zI rd_drive), .int (zI rd_runs)])), ((aRd 3), .inl (ca 0, 60, .inl (zA rd_runFrom))), ((aRd 4), .inl (ca 0, 60, .inl (zA rd_runTo))), ((aRd 5), .inl (ca 0, 60, .inl (zA rd_runDrive)))]) (st' := []) (kX5_addRest l D ca aPl aLw aRd aDy aLe pl_minute pl_drive pl_enough pl_endedBy pl_ownPrice pl_marks pl_mostTaken pl_mostExtended rd_runFrom rd_runTo rd_runDrive rd_acts rd_total rd_drive rd_runs v2 (lw_numbers 8) 2 (262144 - (zlshr 2048 v1)) (pl_minute_114, pl_drive_114, pl_enough_114, pl_endedBy_114, pl_ownPrice_114, pl_marks_114) hc_114) wml_RX5_83 wim_X5_addRest wse_X5_addRest win_RX5 wco_X5_addRest (nA := 4) rfl (by decide +kernel)  ⟨(Nat.le_of_ble_eq_true rfl), (Nat.le_of_ble_eq_true rfl)⟩ (Nat.le_refl _) (Nat.le_refl _) rfl (Nat.le_of_ble_eq_true rfl) dX5_findMarks_114 2 5 rfl rfl rfl [2, 3, 4, 5, 6, 7, 9, 10, 11, 8] [0, 1] rfl rfl rfl (by decide) (by decide) (by decide) rfl rfl (fun _ => rfl) rfl (fun _ => ?_)
              refine g_iinc (pc := 117) C 2 (lv' := [(1, .int (zI (v1 + 1))), (3, .int (zI r_34)), (0, .ref (aPl 0)), (2, .int (zI v2))]) dX5_findMarks_117 rfl (Nat.le_of_ble_eq_true rfl) rfl ?_
              refine g_sub [0, 1, 2, 3, 4, 5, 6, 7, 8, 9, 10, 11] [2, 0, 3] (by decide) rfl rfl rfl ?_
              exact H120 _ _ _ _ _ _ _ _ hf
        · refine g_aload_n (pc := 52) C 1 dX5_findMarks_52 rfl rfl ?_
          refine g_iload_n (pc := 53) C 3 dX5_findMarks_53 rfl rfl ?_
          refine g_aload_n (pc := 54) C 1 dX5_findMarks_54 rfl rfl ?_
          refine g_get (pc := 55) C zf_X5_41 2 rfl rfl dX5_findMarks_55 ?_
          refine g_get (pc := 58) C zf_X5_78 0 rfl rfl dX5_findMarks_58 ?_
          refine g_bipush (pc := 61) C dX5_findMarks_61 (by decide) ?_
          refine g_ialdK (pc := 63) C 7 1 rfl rfl (Nat.le_of_ble_eq_true rfl) (Nat.le_of_ble_eq_true rfl) dX5_findMarks_63 ?_
          refine g_iconst (pc := 64) C dX5_findMarks_64 ?_
          refine g_lconst (pc := 65) C (x := 0) dX5_findMarks_65 (by decide) ?_
          obtain ⟨⟨pl_minute_66, pl_drive_66, pl_enough_66, pl_endedBy_66, pl_ownPrice_66, pl_marks_66⟩, hc_66, hf⟩ := Option.bind_eq_some_iff.mp hf
          dsimp only at hf
          refine g_callV (pc := 66) C hl0 (wr := [((aLw 0), .inr (4, [.ref (aLw 1), .ref (aLw 2)])), ((aLw 1), .inl (ca 0, 11, .inl (zA lw_numbers)))]) (k' := 0) (n' := 0) (ws' := fun _ => [((aLw 0), .inr (4, [.ref (aLw 1), .ref (aLw 2)])), ((aLw 1), .inl (ca 0, 11, .inl (zA lw_numbers))), ((aPl 0), .inr (5, [.ref (aLw 0), .ref (aRd 0), .ref (aDy 0), .ref (aPl 4), .ref (aPl 5), .ref (aPl 6), .ref (aPl 7), .ref (aPl 8), .int (zI pl_marks_66), .int (zI pl_mostTaken), .int (zI pl_mostExtended), .ref aLe])), ((aPl 4), .inl (ca 0, 62, .inl (zA pl_minute_66))), ((aPl 5), .inl (ca 0, 62, .inl (zA pl_drive_66))), ((aPl 6), .inl (ca 0, 62, .inl (zA pl_enough_66))), ((aPl 7), .inl (ca 0, 62, .inl (zA pl_endedBy_66))), ((aPl 8), .inl (ca 2, 62, .inr (.inl (zB pl_ownPrice_66)))), ((aRd 0), .inr (6, [.ref (aRd 1), .ref (aRd 2), .ref (aRd 3), .ref (aRd 4), .ref (aRd 5), .int (zI rd_acts), .int (zI rd_total), .int (zI rd_drive), .int (zI rd_runs)])), ((aRd 3), .inl (ca 0, 60, .inl (zA rd_runFrom))), ((aRd 4), .inl (ca 0, 60, .inl (zA rd_runTo))), ((aRd 5), .inl (ca 0, 60, .inl (zA rd_runDrive)))]) (st' := []) (kX5_addRest l D ca aPl aLw aRd aDy aLe pl_minute pl_drive pl_enough pl_endedBy pl_ownPrice pl_marks pl_mostTaken pl_mostExtended rd_runFrom rd_runTo rd_runDrive rd_acts rd_total rd_drive rd_runs v2 (lw_numbers 7) 1 0 (pl_minute_66, pl_drive_66, pl_enough_66, pl_endedBy_66, pl_ownPrice_66, pl_marks_66) hc_66) wml_RX5_83 wim_X5_addRest wse_X5_addRest win_RX5 wco_X5_addRest (nA := 4) rfl (by decide +kernel)  ⟨(Nat.le_of_ble_eq_true rfl), (Nat.le_of_ble_eq_true rfl)⟩ (Nat.le_refl _) (Nat.le_refl _) rfl (Nat.le_of_ble_eq_true rfl) dX5_findMarks_66 2 5 rfl rfl rfl [2, 3, 4, 5, 6, 7, 9, 10, 11, 8] [0, 1] rfl rfl rfl (by decide) (by decide) (by decide) rfl rfl (fun _ => rfl) rfl (fun _ => ?_)
          refine g_goto (pc := 69) C (tgt := 120) dX5_findMarks_69 (by decide) ?_
          refine g_sub [0, 1, 2, 3, 4, 5, 6, 7, 8, 9, 10, 11] [1, 2, 3] (by decide) rfl rfl rfl ?_
          exact H120 _ _ _ _ _ _ _ _ hf
  unfold fX5_findMarks at hf
  refine g_iconst (pc := 0) C dX5_findMarks_0 ?_
  refine g_istore_n (pc := 1) C (lv' := [(1, .int (zI 0)), (0, .ref (aPl 0))]) dX5_findMarks_1 rfl (Nat.le_of_ble_eq_true rfl) rfl ?_
  refine g_aload_n (pc := 2) C 1 dX5_findMarks_2 rfl rfl ?_
  refine g_iconst (pc := 3) C dX5_findMarks_3 ?_
  refine g_put (pc := 4) C zf_X5_28 tyX5 tyX5_ok nmX5 (v := .int (zI 0)) (ws' := [((aLw 0), .inr (4, [.ref (aLw 1), .ref (aLw 2)])), ((aLw 1), .inl (ca 0, 11, .inl (zA lw_numbers))), ((aPl 0), .inr (5, [.ref (aLw 0), .ref (aRd 0), .ref (aDy 0), .ref (aPl 4), .ref (aPl 5), .ref (aPl 6), .ref (aPl 7), .ref (aPl 8), .int (zI 0), .int (zI pl_mostTaken), .int (zI pl_mostExtended), .ref aLe])), ((aPl 4), .inl (ca 0, 62, .inl (zA pl_minute))), ((aPl 5), .inl (ca 0, 62, .inl (zA pl_drive))), ((aPl 6), .inl (ca 0, 62, .inl (zA pl_enough))), ((aPl 7), .inl (ca 0, 62, .inl (zA pl_endedBy))), ((aPl 8), .inl (ca 2, 62, .inr (.inl (zB pl_ownPrice)))), ((aRd 0), .inr (6, [.ref (aRd 1), .ref (aRd 2), .ref (aRd 3), .ref (aRd 4), .ref (aRd 5), .int (zI rd_acts), .int (zI rd_total), .int (zI rd_drive), .int (zI rd_runs)])), ((aRd 3), .inl (ca 0, 60, .inl (zA rd_runFrom))), ((aRd 4), .inl (ca 0, 60, .inl (zA rd_runTo))), ((aRd 5), .inl (ca 0, 60, .inl (zA rd_runDrive)))]) 2 rfl rfl rfl rfl rfl (Nat.le_of_ble_eq_true rfl) rfl rfl dX5_findMarks_4 ?_
  refine g_aload_n (pc := 7) C 1 dX5_findMarks_7 rfl rfl ?_
  refine g_iconst (pc := 8) C dX5_findMarks_8 ?_
  refine g_iconst (pc := 9) C dX5_findMarks_9 ?_
  refine g_iconst (pc := 10) C dX5_findMarks_10 ?_
  refine g_iconst (pc := 11) C dX5_findMarks_11 ?_
  refine g_lconst (pc := 12) C (x := 0) dX5_findMarks_12 (by decide) ?_
  obtain ⟨⟨pl_minute_13, pl_drive_13, pl_enough_13, pl_endedBy_13, pl_ownPrice_13, pl_marks_13⟩, hc_13, hf⟩ := Option.bind_eq_some_iff.mp hf
  dsimp only at hf
  refine g_callV (pc := 13) C hl0 (wr := [((aLw 0), .inr (4, [.ref (aLw 1), .ref (aLw 2)])), ((aLw 1), .inl (ca 0, 11, .inl (zA lw_numbers))), ((aRd 0), .inr (6, [.ref (aRd 1), .ref (aRd 2), .ref (aRd 3), .ref (aRd 4), .ref (aRd 5), .int (zI rd_acts), .int (zI rd_total), .int (zI rd_drive), .int (zI rd_runs)])), ((aRd 3), .inl (ca 0, 60, .inl (zA rd_runFrom))), ((aRd 4), .inl (ca 0, 60, .inl (zA rd_runTo))), ((aRd 5), .inl (ca 0, 60, .inl (zA rd_runDrive)))]) (k' := 0) (n' := 0) (ws' := fun _ => [((aLw 0), .inr (4, [.ref (aLw 1), .ref (aLw 2)])), ((aLw 1), .inl (ca 0, 11, .inl (zA lw_numbers))), ((aRd 0), .inr (6, [.ref (aRd 1), .ref (aRd 2), .ref (aRd 3), .ref (aRd 4), .ref (aRd 5), .int (zI rd_acts), .int (zI rd_total), .int (zI rd_drive), .int (zI rd_runs)])), ((aRd 3), .inl (ca 0, 60, .inl (zA rd_runFrom))), ((aRd 4), .inl (ca 0, 60, .inl (zA rd_runTo))), ((aRd 5), .inl (ca 0, 60, .inl (zA rd_runDrive))), ((aPl 0), .inr (5, [.ref (aLw 0), .ref (aRd 0), .ref (aDy 0), .ref (aPl 4), .ref (aPl 5), .ref (aPl 6), .ref (aPl 7), .ref (aPl 8), .int (zI pl_marks_13), .int (zI pl_mostTaken), .int (zI pl_mostExtended), .ref aLe])), ((aPl 4), .inl (ca 0, 62, .inl (zA pl_minute_13))), ((aPl 5), .inl (ca 0, 62, .inl (zA pl_drive_13))), ((aPl 6), .inl (ca 0, 62, .inl (zA pl_enough_13))), ((aPl 7), .inl (ca 0, 62, .inl (zA pl_endedBy_13))), ((aPl 8), .inl (ca 2, 62, .inr (.inl (zB pl_ownPrice_13))))]) (st' := []) (kX5_addMark l D ca aPl aLw aRd aDy aLe pl_minute pl_drive pl_enough pl_endedBy pl_ownPrice 0 pl_mostTaken pl_mostExtended 0 0 0 0 0 (pl_minute_13, pl_drive_13, pl_enough_13, pl_endedBy_13, pl_ownPrice_13, pl_marks_13) hc_13) wml_RX5_65 wim_X5_addMark wse_X5_addMark win_RX5 wco_X5_addMark (nA := 5) rfl (by decide +kernel)  ⟨(Nat.le_of_ble_eq_true rfl), (Nat.le_of_ble_eq_true rfl)⟩ (Nat.le_refl _) (Nat.le_refl _) rfl (Nat.le_of_ble_eq_true rfl) dX5_findMarks_13 2 5 rfl rfl rfl [2, 3, 4, 5, 6, 7] [0, 1, 8, 9, 10, 11] rfl rfl rfl (by decide) (by decide) (by decide) rfl rfl (fun _ => rfl) rfl (fun _ => ?_)
  refine g_iconst (pc := 16) C dX5_findMarks_16 ?_
  refine g_istore_n (pc := 17) C (lv' := [(2, .int (zI 0)), (1, .int (zI 0)), (0, .ref (aPl 0))]) dX5_findMarks_17 rfl (Nat.le_of_ble_eq_true rfl) rfl ?_
  refine g_sub [0, 1, 6, 7, 8, 9, 10, 11, 2, 3, 4, 5] [2, 1, 0] (by decide) rfl rfl rfl ?_
  exact H18 _ _ _ _ _ _ _ _ _ _ _ hf
def oX5_tellDays (ca : Nat → ClassId) (aDy : Nat → Nat) (aLw : Nat → Nat) (aPl : Nat → Nat) (aRd : Nat → Nat) (aLe : Nat) (lw_numbers : Nat → Int) (pl_minute : Nat → Int) (pl_drive : Nat → Int) (pl_enough : Nat → Int) (pl_endedBy : Nat → Int) (pl_ownPrice : Nat → Int) (pl_marks : Int) (pl_mostTaken : Int) (pl_mostExtended : Int) (pl_least : Nat → Int) (pl_L : Nat) (rd_acts : Int) (rd_total : Int) (rd_drive : Int) (rd_runs : Int) (Ro : (Nat → Int) × (Nat → Int) × (Nat → Int) × (Nat → Int) × (Nat → Int) × (Nat → Int) × (Nat → Int) × Int) : (Nat → Nat) → va_W := fun _ => [((aDy 0), .inr (3, [.ref (aDy 1), .ref (aDy 2), .ref (aDy 3), .ref (aDy 4), .ref (aDy 5), .ref (aDy 6), .ref (aDy 7), .int (zI (Ro.2.2.2.2.2.2.2))])), ((aDy 1), .inl (ca 0, 61, .inl (zA (Ro.1)))), ((aDy 2), .inl (ca 0, 61, .inl (zA (Ro.2.1)))), ((aDy 3), .inl (ca 0, 61, .inl (zA (Ro.2.2.1)))), ((aDy 4), .inl (ca 0, 61, .inl (zA (Ro.2.2.2.1)))), ((aDy 5), .inl (ca 0, 61, .inl (zA (Ro.2.2.2.2.1)))), ((aDy 6), .inl (ca 0, 61, .inl (zA (Ro.2.2.2.2.2.1)))), ((aDy 7), .inl (ca 0, 61, .inl (zA (Ro.2.2.2.2.2.2.1)))), ((aLw 0), .inr (4, [.ref (aLw 1), .ref (aLw 2)])), ((aLw 1), .inl (ca 0, 11, .inl (zA lw_numbers))), ((aPl 0), .inr (5, [.ref (aLw 0), .ref (aRd 0), .ref (aDy 0), .ref (aPl 4), .ref (aPl 5), .ref (aPl 6), .ref (aPl 7), .ref (aPl 8), .int (zI pl_marks), .int (zI pl_mostTaken), .int (zI pl_mostExtended), .ref aLe])), ((aPl 4), .inl (ca 0, 62, .inl (zA pl_minute))), ((aPl 5), .inl (ca 0, 62, .inl (zA pl_drive))), ((aPl 6), .inl (ca 0, 62, .inl (zA pl_enough))), ((aPl 7), .inl (ca 0, 62, .inl (zA pl_endedBy))), ((aPl 8), .inl (ca 2, 62, .inr (.inl (zB pl_ownPrice)))), (aLe, .inl (ca 2, pl_L, .inr (.inl (zB pl_least)))), ((aRd 0), .inr (6, [.ref (aRd 1), .ref (aRd 2), .ref (aRd 3), .ref (aRd 4), .ref (aRd 5), .int (zI rd_acts), .int (zI rd_total), .int (zI rd_drive), .int (zI rd_runs)]))]
def oiX5_tellDays (Ro : (Nat → Int) × (Nat → Int) × (Nat → Int) × (Nat → Int) × (Nat → Int) × (Nat → Int) × (Nat → Int) × Int) : Option Value := none
set_option maxRecDepth 100000 in
theorem kX5_tellDays (l : Launch) (D : va_G) (ca : Nat → ClassId) (aDy : Nat → Nat) (aLw : Nat → Nat) (aPl : Nat → Nat) (aRd : Nat → Nat) (aLe : Nat) (dy_from : Nat → Int) (dy_to : Nat → Int) (dy_drive : Nat → Int) (dy_extended : Nat → Int) (dy_endedBy : Nat → Int) (dy_over : Nat → Int) (dy_late : Nat → Int) (dy_size : Int) (lw_numbers : Nat → Int) (pl_minute : Nat → Int) (pl_drive : Nat → Int) (pl_enough : Nat → Int) (pl_endedBy : Nat → Int) (pl_ownPrice : Nat → Int) (pl_marks : Int) (pl_mostTaken : Int) (pl_mostExtended : Int) (pl_least : Nat → Int) (pl_L : Nat) (rd_acts : Int) (rd_total : Int) (rd_drive : Int) (rd_runs : Int)  (Ro : (Nat → Int) × (Nat → Int) × (Nat → Int) × (Nat → Int) × (Nat → Int) × (Nat → Int) × (Nat → Int) × Int)
    (hf : fX5_tellDays dy_from dy_to dy_drive dy_extended dy_endedBy dy_over dy_late dy_size lw_numbers pl_minute pl_drive pl_enough pl_endedBy pl_ownPrice pl_marks pl_mostTaken pl_mostExtended pl_least pl_L rd_total = some Ro) : Zc l D ca yX5_tellDays cX5_tellDays 8 none { frames := 4, cells := 0, slots := 0, locals := 91 } [.ref (aPl 0)] [((aDy 0), .inr (3, [.ref (aDy 1), .ref (aDy 2), .ref (aDy 3), .ref (aDy 4), .ref (aDy 5), .ref (aDy 6), .ref (aDy 7), .int (zI dy_size)])), ((aDy 1), .inl (ca 0, 61, .inl (zA dy_from))), ((aDy 2), .inl (ca 0, 61, .inl (zA dy_to))), ((aDy 3), .inl (ca 0, 61, .inl (zA dy_drive))), ((aDy 4), .inl (ca 0, 61, .inl (zA dy_extended))), ((aDy 5), .inl (ca 0, 61, .inl (zA dy_endedBy))), ((aDy 6), .inl (ca 0, 61, .inl (zA dy_over))), ((aDy 7), .inl (ca 0, 61, .inl (zA dy_late))), ((aLw 0), .inr (4, [.ref (aLw 1), .ref (aLw 2)])), ((aLw 1), .inl (ca 0, 11, .inl (zA lw_numbers))), ((aPl 0), .inr (5, [.ref (aLw 0), .ref (aRd 0), .ref (aDy 0), .ref (aPl 4), .ref (aPl 5), .ref (aPl 6), .ref (aPl 7), .ref (aPl 8), .int (zI pl_marks), .int (zI pl_mostTaken), .int (zI pl_mostExtended), .ref aLe])), ((aPl 4), .inl (ca 0, 62, .inl (zA pl_minute))), ((aPl 5), .inl (ca 0, 62, .inl (zA pl_drive))), ((aPl 6), .inl (ca 0, 62, .inl (zA pl_enough))), ((aPl 7), .inl (ca 0, 62, .inl (zA pl_endedBy))), ((aPl 8), .inl (ca 2, 62, .inr (.inl (zB pl_ownPrice)))), (aLe, .inl (ca 2, pl_L, .inr (.inl (zB pl_least)))), ((aRd 0), .inr (6, [.ref (aRd 1), .ref (aRd 2), .ref (aRd 3), .ref (aRd 4), .ref (aRd 5), .int (zI rd_acts), .int (zI rd_total), .int (zI rd_drive), .int (zI rd_runs)]))] (oiX5_tellDays Ro) (oX5_tellDays ca aDy aLw aPl aRd aLe lw_numbers pl_minute pl_drive pl_enough pl_endedBy pl_ownPrice pl_marks pl_mostTaken pl_mostExtended pl_least pl_L rd_acts rd_total rd_drive rd_runs Ro) := by
  refine ctr_of (lv := [(0, .ref (aPl 0))]) (by decide +kernel) (Nat.le_of_ble_eq_true rfl) rfl (fun Γ hl0 C E hnm => ?_)
  have H23 : ∀  (n23 : Nat) (v1 : Int) (v2 : Int) (v3 : Int) (v4 : Int) (dy_from : Nat → Int) (dy_to : Nat → Int) (dy_drive : Nat → Int) (dy_extended : Nat → Int) (dy_endedBy : Nat → Int) (dy_over : Nat → Int) (dy_late : Nat → Int) (dy_size : Int), zlp (fX5_tellDays_23 lw_numbers pl_minute pl_drive pl_enough pl_endedBy pl_ownPrice pl_marks pl_mostTaken pl_mostExtended pl_least pl_L rd_total) n23 (v1, v2, v3, v4, dy_from, dy_to, dy_drive, dy_extended, dy_endedBy, dy_over, dy_late, dy_size) = some Ro → Zd D Γ 0 0 [((aDy 0), .inr (3, [.ref (aDy 1), .ref (aDy 2), .ref (aDy 3), .ref (aDy 4), .ref (aDy 5), .ref (aDy 6), .ref (aDy 7), .int (zI dy_size)])), ((aDy 1), .inl (ca 0, 61, .inl (zA dy_from))), ((aDy 2), .inl (ca 0, 61, .inl (zA dy_to))), ((aDy 3), .inl (ca 0, 61, .inl (zA dy_drive))), ((aDy 4), .inl (ca 0, 61, .inl (zA dy_extended))), ((aDy 5), .inl (ca 0, 61, .inl (zA dy_endedBy))), ((aDy 6), .inl (ca 0, 61, .inl (zA dy_over))), ((aDy 7), .inl (ca 0, 61, .inl (zA dy_late))), ((aLw 0), .inr (4, [.ref (aLw 1), .ref (aLw 2)])), ((aLw 1), .inl (ca 0, 11, .inl (zA lw_numbers))), ((aPl 0), .inr (5, [.ref (aLw 0), .ref (aRd 0), .ref (aDy 0), .ref (aPl 4), .ref (aPl 5), .ref (aPl 6), .ref (aPl 7), .ref (aPl 8), .int (zI pl_marks), .int (zI pl_mostTaken), .int (zI pl_mostExtended), .ref aLe])), ((aPl 4), .inl (ca 0, 62, .inl (zA pl_minute))), ((aPl 5), .inl (ca 0, 62, .inl (zA pl_drive))), ((aPl 6), .inl (ca 0, 62, .inl (zA pl_enough))), ((aPl 7), .inl (ca 0, 62, .inl (zA pl_endedBy))), ((aPl 8), .inl (ca 2, 62, .inr (.inl (zB pl_ownPrice)))), (aLe, .inl (ca 2, pl_L, .inr (.inl (zB pl_least)))), ((aRd 0), .inr (6, [.ref (aRd 1), .ref (aRd 2), .ref (aRd 3), .ref (aRd 4), .ref (aRd 5), .int (zI rd_acts), .int (zI rd_total), .int (zI rd_drive), .int (zI rd_runs)]))] 23 [(0, .ref (aPl 0)), (1, .int (zI v1)), (2, .int (zI v2)), (3, .int (zI v3)), (4, .int (zI v4))] [] := by
    intro n23
    induction n23 with
    | zero =>
      intro v1 v2 v3 v4 dy_from dy_to dy_drive dy_extended dy_endedBy dy_over dy_late dy_size hf
      exact zno hf
    | succ n23 ih23 =>
      intro v1 v2 v3 v4 dy_from dy_to dy_drive dy_extended dy_endedBy dy_over dy_late dy_size hf
      rw [zlp_s] at hf
      unfold fX5_tellDays_23 at hf
      dsimp only at hf
      refine g_iload (pc := 23) C 4 dX5_tellDays_23 rfl ?_
      refine g_aload_n (pc := 25) C 0 dX5_tellDays_25 rfl rfl ?_
      refine g_get (pc := 26) C zf_X5_28 10 rfl rfl dX5_tellDays_26 ?_
      refine g_icmp_ge (pc := 29) C (tgt := 165) dX5_tellDays_29 (by decide) hf (fun hf => ?_) (fun hf => ?_)
      · exact g_vret (pc := 165) C hf E rfl (fun _ => 0) [0, 1, 2, 3, 4, 5, 6, 7, 8, 9, 10, 11, 12, 13, 14, 15, 16, 17] (by decide) rfl rfl (Nat.le_refl _) (Nat.le_refl _) dX5_tellDays_165
      · refine g_aload_n (pc := 32) C 0 dX5_tellDays_32 rfl rfl ?_
        refine g_get (pc := 33) C zf_X5_11 10 rfl rfl dX5_tellDays_33 ?_
        refine g_iload_n (pc := 36) C 1 dX5_tellDays_36 rfl rfl ?_
        refine g_iald (pc := 37) C (N := 62) 11 rfl rfl (Nat.le_of_ble_eq_true rfl) dX5_tellDays_37 hf (fun hf => ?_)
        refine g_aload_n (pc := 38) C 0 dX5_tellDays_38 rfl rfl ?_
        refine g_get (pc := 39) C zf_X5_45 10 rfl rfl dX5_tellDays_39 ?_
        refine g_get (pc := 42) C zf_X5_91 17 rfl rfl dX5_tellDays_42 ?_
        refine g_icmp_ge (pc := 45) C (tgt := 165) dX5_tellDays_45 (by decide) hf (fun hf => ?_) (fun hf => ?_)
        · exact g_vret (pc := 165) C hf E rfl (fun _ => 0) [0, 1, 2, 3, 4, 5, 6, 7, 8, 9, 10, 11, 12, 13, 14, 15, 16, 17] (by decide) rfl rfl (Nat.le_refl _) (Nat.le_refl _) dX5_tellDays_165
        · refine g_aload_n (pc := 48) C 0 dX5_tellDays_48 rfl rfl ?_
          refine g_iload_n (pc := 49) C 1 dX5_tellDays_49 rfl rfl ?_
          refine g_iload_n (pc := 50) C 2 dX5_tellDays_50 rfl rfl ?_
          refine g_iload_n (pc := 51) C 3 dX5_tellDays_51 rfl rfl ?_
          obtain ⟨r_52, hc_52, hf⟩ := Option.bind_eq_some_iff.mp hf
          refine g_callV (pc := 52) C hl0 (wr := [((aDy 0), .inr (3, [.ref (aDy 1), .ref (aDy 2), .ref (aDy 3), .ref (aDy 4), .ref (aDy 5), .ref (aDy 6), .ref (aDy 7), .int (zI dy_size)])), ((aDy 1), .inl (ca 0, 61, .inl (zA dy_from))), ((aDy 2), .inl (ca 0, 61, .inl (zA dy_to))), ((aDy 3), .inl (ca 0, 61, .inl (zA dy_drive))), ((aDy 4), .inl (ca 0, 61, .inl (zA dy_extended))), ((aDy 5), .inl (ca 0, 61, .inl (zA dy_endedBy))), ((aDy 6), .inl (ca 0, 61, .inl (zA dy_over))), ((aDy 7), .inl (ca 0, 61, .inl (zA dy_late))), ((aRd 0), .inr (6, [.ref (aRd 1), .ref (aRd 2), .ref (aRd 3), .ref (aRd 4), .ref (aRd 5), .int (zI rd_acts), .int (zI rd_total), .int (zI rd_drive), .int (zI rd_runs)]))]) (k' := 0) (n' := 0) (ws' := fun _ => [((aDy 0), .inr (3, [.ref (aDy 1), .ref (aDy 2), .ref (aDy 3), .ref (aDy 4), .ref (aDy 5), .ref (aDy 6), .ref (aDy 7), .int (zI dy_size)])), ((aDy 1), .inl (ca 0, 61, .inl (zA dy_from))), ((aDy 2), .inl (ca 0, 61, .inl (zA dy_to))), ((aDy 3), .inl (ca 0, 61, .inl (zA dy_drive))), ((aDy 4), .inl (ca 0, 61, .inl (zA dy_extended))), ((aDy 5), .inl (ca 0, 61, .inl (zA dy_endedBy))), ((aDy 6), .inl (ca 0, 61, .inl (zA dy_over))), ((aDy 7), .inl (ca 0, 61, .inl (zA dy_late))), ((aRd 0), .inr (6, [.ref (aRd 1), .ref (aRd 2), .ref (aRd 3), .ref (aRd 4), .ref (aRd 5), .int (zI rd_acts), .int (zI rd_total), .int (zI rd_drive), .int (zI rd_runs)])), ((aLw 0), .inr (4, [.ref (aLw 1), .ref (aLw 2)])), ((aLw 1), .inl (ca 0, 11, .inl (zA lw_numbers))), ((aPl 0), .inr (5, [.ref (aLw 0), .ref (aRd 0), .ref (aDy 0), .ref (aPl 4), .ref (aPl 5), .ref (aPl 6), .ref (aPl 7), .ref (aPl 8), .int (zI pl_marks), .int (zI pl_mostTaken), .int (zI pl_mostExtended), .ref aLe])), ((aPl 4), .inl (ca 0, 62, .inl (zA pl_minute))), ((aPl 5), .inl (ca 0, 62, .inl (zA pl_drive))), ((aPl 6), .inl (ca 0, 62, .inl (zA pl_enough))), ((aPl 7), .inl (ca 0, 62, .inl (zA pl_endedBy))), ((aPl 8), .inl (ca 2, 62, .inr (.inl (zB pl_ownPrice)))), (aLe, .inl (ca 2, pl_L, .inr (.inl (zB pl_least))))]) (st' := [.int (zI r_52)]) (kX5_choiceAt l D ca aLw aPl aRd aDy aLe lw_numbers pl_minute pl_drive pl_enough pl_endedBy pl_ownPrice pl_marks pl_mostTaken pl_mostExtended pl_least pl_L v1 v2 v3 r_52 hc_52) wml_RX5_156 wim_X5_choiceAt wse_X5_choiceAt win_RX5 wco_X5_choiceAt (nA := 3) rfl (by decide +kernel)  ⟨(Nat.le_of_ble_eq_true rfl), (Nat.le_of_ble_eq_true rfl)⟩ (Nat.le_refl _) (Nat.le_refl _) rfl (Nat.le_of_ble_eq_true rfl) dX5_tellDays_52 10 5 rfl rfl rfl [8, 9, 10, 11, 12, 13, 14, 15, 16] [0, 1, 2, 3, 4, 5, 6, 7, 17] rfl rfl rfl (by decide) (by decide) (by decide) rfl rfl (fun _ => rfl) rfl (fun _ => ?_)
          refine g_istore (pc := 55) C (lv' := [(5, .int (zI r_52)), (0, .ref (aPl 0)), (1, .int (zI v1)), (2, .int (zI v2)), (3, .int (zI v3)), (4, .int (zI v4))]) dX5_tellDays_55 (Nat.le_of_ble_eq_true rfl) rfl ?_
          refine g_iload (pc := 57) C 0 dX5_tellDays_57 rfl ?_
          refine g_iconst (pc := 59) C dX5_tellDays_59 ?_
          refine g_idiv (pc := 60) C dX5_tellDays_60 (by decide) hf (fun hf => ?_)
          refine g_istore (pc := 61) C (lv' := [(6, .int (zI (Int.tdiv r_52 2))), (5, .int (zI r_52)), (0, .ref (aPl 0)), (1, .int (zI v1)), (2, .int (zI v2)), (3, .int (zI v3)), (4, .int (zI v4))]) dX5_tellDays_61 (Nat.le_of_ble_eq_true rfl) rfl ?_
          refine g_iload (pc := 63) C 1 dX5_tellDays_63 rfl ?_
          refine g_iconst (pc := 65) C dX5_tellDays_65 ?_
          refine g_irem (pc := 66) C dX5_tellDays_66 (by decide) hf (fun hf => ?_)
          refine g_istore (pc := 67) C (lv' := [(7, .int (zI (r_52 - Int.tdiv r_52 2 * 2))), (6, .int (zI (Int.tdiv r_52 2))), (5, .int (zI r_52)), (0, .ref (aPl 0)), (1, .int (zI v1)), (2, .int (zI v2)), (3, .int (zI v3)), (4, .int (zI v4))]) dX5_tellDays_67 (Nat.le_of_ble_eq_true rfl) rfl ?_
          refine g_aload_n (pc := 69) C 3 dX5_tellDays_69 rfl rfl ?_
          refine g_get (pc := 70) C zf_X5_49 11 rfl rfl dX5_tellDays_70 ?_
          refine g_aload_n (pc := 73) C 3 dX5_tellDays_73 rfl rfl ?_
          refine g_get (pc := 74) C zf_X5_11 11 rfl rfl dX5_tellDays_74 ?_
          refine g_iload_n (pc := 77) C 4 dX5_tellDays_77 rfl rfl ?_
          refine g_iald (pc := 78) C (N := 62) 12 rfl rfl (Nat.le_of_ble_eq_true rfl) dX5_tellDays_78 hf (fun hf => ?_)
          refine g_aload_n (pc := 79) C 3 dX5_tellDays_79 rfl rfl ?_
          refine g_get (pc := 80) C zf_X5_11 11 rfl rfl dX5_tellDays_80 ?_
          refine g_iload (pc := 83) C 1 dX5_tellDays_83 rfl ?_
          refine g_iald (pc := 85) C (N := 62) 12 rfl rfl (Nat.le_of_ble_eq_true rfl) dX5_tellDays_85 hf (fun hf => ?_)
          refine g_aload_n (pc := 86) C 3 dX5_tellDays_86 rfl rfl ?_
          refine g_get (pc := 87) C zf_X5_21 11 rfl rfl dX5_tellDays_87 ?_
          refine g_iload (pc := 90) C 1 dX5_tellDays_90 rfl ?_
          refine g_iald (pc := 92) C (N := 62) 15 rfl rfl (Nat.le_of_ble_eq_true rfl) dX5_tellDays_92 hf (fun hf => ?_)
          obtain ⟨⟨dy_from_93, dy_to_93, dy_endedBy_93, dy_size_93⟩, hc_93, hf⟩ := Option.bind_eq_some_iff.mp hf
          dsimp only at hf
          refine g_callV (pc := 93) C hl0 (wr := [((aDy 3), .inl (ca 0, 61, .inl (zA dy_drive))), ((aDy 4), .inl (ca 0, 61, .inl (zA dy_extended))), ((aDy 6), .inl (ca 0, 61, .inl (zA dy_over))), ((aDy 7), .inl (ca 0, 61, .inl (zA dy_late))), ((aRd 0), .inr (6, [.ref (aRd 1), .ref (aRd 2), .ref (aRd 3), .ref (aRd 4), .ref (aRd 5), .int (zI rd_acts), .int (zI rd_total), .int (zI rd_drive), .int (zI rd_runs)])), ((aLw 0), .inr (4, [.ref (aLw 1), .ref (aLw 2)])), ((aLw 1), .inl (ca 0, 11, .inl (zA lw_numbers))), ((aPl 0), .inr (5, [.ref (aLw 0), .ref (aRd 0), .ref (aDy 0), .ref (aPl 4), .ref (aPl 5), .ref (aPl 6), .ref (aPl 7), .ref (aPl 8), .int (zI pl_marks), .int (zI pl_mostTaken), .int (zI pl_mostExtended), .ref aLe])), ((aPl 4), .inl (ca 0, 62, .inl (zA pl_minute))), ((aPl 5), .inl (ca 0, 62, .inl (zA pl_drive))), ((aPl 6), .inl (ca 0, 62, .inl (zA pl_enough))), ((aPl 7), .inl (ca 0, 62, .inl (zA pl_endedBy))), ((aPl 8), .inl (ca 2, 62, .inr (.inl (zB pl_ownPrice)))), (aLe, .inl (ca 2, pl_L, .inr (.inl (zB pl_least))))]) (k' := 0) (n' := 0) (ws' := fun _ => [((aDy 3), .inl (ca 0, 61, .inl (zA dy_drive))), ((aDy 4), .inl (ca 0, 61, .inl (zA dy_extended))), ((aDy 6), .inl (ca 0, 61, .inl (zA dy_over))), ((aDy 7), .inl (ca 0, 61, .inl (zA dy_late))), ((aRd 0), .inr (6, [.ref (aRd 1), .ref (aRd 2), .ref (aRd 3), .ref (aRd 4), .ref (aRd 5), .int (zI rd_acts), .int (zI rd_total), .int (zI rd_drive), .int (zI rd_runs)])), ((aLw 0), .inr (4, [.ref (aLw 1), .ref (aLw 2)])), ((aLw 1), .inl (ca 0, 11, .inl (zA lw_numbers))), ((aPl 0), .inr (5, [.ref (aLw 0), .ref (aRd 0), .ref (aDy 0), .ref (aPl 4), .ref (aPl 5), .ref (aPl 6), .ref (aPl 7), .ref (aPl 8), .int (zI pl_marks), .int (zI pl_mostTaken), .int (zI pl_mostExtended), .ref aLe])), ((aPl 4), .inl (ca 0, 62, .inl (zA pl_minute))), ((aPl 5), .inl (ca 0, 62, .inl (zA pl_drive))), ((aPl 6), .inl (ca 0, 62, .inl (zA pl_enough))), ((aPl 7), .inl (ca 0, 62, .inl (zA pl_endedBy))), ((aPl 8), .inl (ca 2, 62, .inr (.inl (zB pl_ownPrice)))), (aLe, .inl (ca 2, pl_L, .inr (.inl (zB pl_least)))), ((aDy 0), .inr (3, [.ref (aDy 1), .ref (aDy 2), .ref (aDy 3), .ref (aDy 4), .ref (aDy 5), .ref (aDy 6), .ref (aDy 7), .int (zI dy_size_93)])), ((aDy 1), .inl (ca 0, 61, .inl (zA dy_from_93))), ((aDy 2), .inl (ca 0, 61, .inl (zA dy_to_93))), ((aDy 5), .inl (ca 0, 61, .inl (zA dy_endedBy_93)))]) (st' := []) (kX3_addSpan l D ca aDy dy_from dy_to dy_endedBy dy_size (pl_minute v1.toNat) (pl_minute (Int.tdiv r_52 2).toNat) (pl_endedBy (Int.tdiv r_52 2).toNat) (dy_from_93, dy_to_93, dy_endedBy_93, dy_size_93) hc_93) wml_RX5_159 wim_X3_addSpan wse_X3_addSpan win_RX3 wco_X3_addSpan (nA := 3) rfl (by decide +kernel)  ⟨(Nat.le_of_ble_eq_true rfl), (Nat.le_of_ble_eq_true rfl)⟩ (Nat.le_refl _) (Nat.le_refl _) rfl (Nat.le_of_ble_eq_true rfl) dX5_tellDays_93 0 3 rfl rfl rfl [0, 1, 2, 5] [3, 4, 6, 7, 8, 9, 10, 11, 12, 13, 14, 15, 16, 17] rfl rfl rfl (by decide) (by decide) (by decide) rfl rfl (fun _ => rfl) rfl (fun _ => ?_)
          refine g_aload_n (pc := 96) C 3 dX5_tellDays_96 rfl rfl ?_
          refine g_get (pc := 97) C zf_X5_49 7 rfl rfl dX5_tellDays_97 ?_
          refine g_aload_n (pc := 100) C 3 dX5_tellDays_100 rfl rfl ?_
          refine g_get (pc := 101) C zf_X5_15 7 rfl rfl dX5_tellDays_101 ?_
          refine g_iload (pc := 104) C 1 dX5_tellDays_104 rfl ?_
          refine g_iald (pc := 106) C (N := 62) 9 rfl rfl (Nat.le_of_ble_eq_true rfl) dX5_tellDays_106 hf (fun hf => ?_)
          refine g_aload_n (pc := 107) C 3 dX5_tellDays_107 rfl rfl ?_
          refine g_get (pc := 108) C zf_X5_15 7 rfl rfl dX5_tellDays_108 ?_
          refine g_iload_n (pc := 111) C 4 dX5_tellDays_111 rfl rfl ?_
          refine g_iald (pc := 112) C (N := 62) 9 rfl rfl (Nat.le_of_ble_eq_true rfl) dX5_tellDays_112 hf (fun hf => ?_)
          refine g_isub (pc := 113) C dX5_tellDays_113 ?_
          refine g_iload (pc := 114) C 0 dX5_tellDays_114 rfl ?_
          refine g_aload_n (pc := 116) C 3 dX5_tellDays_116 rfl rfl ?_
          refine g_iload_n (pc := 117) C 4 dX5_tellDays_117 rfl rfl ?_
          refine g_iload (pc := 118) C 1 dX5_tellDays_118 rfl ?_
          refine g_iload (pc := 120) C 0 dX5_tellDays_120 rfl ?_
          obtain ⟨r_122, hc_122, hf⟩ := Option.bind_eq_some_iff.mp hf
          refine g_callV (pc := 122) C hl0 (wr := [((aDy 3), .inl (ca 0, 61, .inl (zA dy_drive))), ((aDy 4), .inl (ca 0, 61, .inl (zA dy_extended))), ((aDy 6), .inl (ca 0, 61, .inl (zA dy_over))), ((aDy 7), .inl (ca 0, 61, .inl (zA dy_late))), ((aRd 0), .inr (6, [.ref (aRd 1), .ref (aRd 2), .ref (aRd 3), .ref (aRd 4), .ref (aRd 5), .int (zI rd_acts), .int (zI rd_total), .int (zI rd_drive), .int (zI rd_runs)])), ((aPl 4), .inl (ca 0, 62, .inl (zA pl_minute))), ((aPl 6), .inl (ca 0, 62, .inl (zA pl_enough))), ((aPl 7), .inl (ca 0, 62, .inl (zA pl_endedBy))), ((aPl 8), .inl (ca 2, 62, .inr (.inl (zB pl_ownPrice)))), (aLe, .inl (ca 2, pl_L, .inr (.inl (zB pl_least)))), ((aDy 0), .inr (3, [.ref (aDy 1), .ref (aDy 2), .ref (aDy 3), .ref (aDy 4), .ref (aDy 5), .ref (aDy 6), .ref (aDy 7), .int (zI dy_size_93)])), ((aDy 1), .inl (ca 0, 61, .inl (zA dy_from_93))), ((aDy 2), .inl (ca 0, 61, .inl (zA dy_to_93))), ((aDy 5), .inl (ca 0, 61, .inl (zA dy_endedBy_93)))]) (k' := 0) (n' := 0) (ws' := fun _ => [((aDy 3), .inl (ca 0, 61, .inl (zA dy_drive))), ((aDy 4), .inl (ca 0, 61, .inl (zA dy_extended))), ((aDy 6), .inl (ca 0, 61, .inl (zA dy_over))), ((aDy 7), .inl (ca 0, 61, .inl (zA dy_late))), ((aRd 0), .inr (6, [.ref (aRd 1), .ref (aRd 2), .ref (aRd 3), .ref (aRd 4), .ref (aRd 5), .int (zI rd_acts), .int (zI rd_total), .int (zI rd_drive), .int (zI rd_runs)])), ((aPl 4), .inl (ca 0, 62, .inl (zA pl_minute))), ((aPl 6), .inl (ca 0, 62, .inl (zA pl_enough))), ((aPl 7), .inl (ca 0, 62, .inl (zA pl_endedBy))), ((aPl 8), .inl (ca 2, 62, .inr (.inl (zB pl_ownPrice)))), (aLe, .inl (ca 2, pl_L, .inr (.inl (zB pl_least)))), ((aDy 0), .inr (3, [.ref (aDy 1), .ref (aDy 2), .ref (aDy 3), .ref (aDy 4), .ref (aDy 5), .ref (aDy 6), .ref (aDy 7), .int (zI dy_size_93)])), ((aDy 1), .inl (ca 0, 61, .inl (zA dy_from_93))), ((aDy 2), .inl (ca 0, 61, .inl (zA dy_to_93))), ((aDy 5), .inl (ca 0, 61, .inl (zA dy_endedBy_93))), ((aLw 0), .inr (4, [.ref (aLw 1), .ref (aLw 2)])), ((aLw 1), .inl (ca 0, 11, .inl (zA lw_numbers))), ((aPl 0), .inr (5, [.ref (aLw 0), .ref (aRd 0), .ref (aDy 0), .ref (aPl 4), .ref (aPl 5), .ref (aPl 6), .ref (aPl 7), .ref (aPl 8), .int (zI pl_marks), .int (zI pl_mostTaken), .int (zI pl_mostExtended), .ref aLe])), ((aPl 5), .inl (ca 0, 62, .inl (zA pl_drive)))]) (st' := [.int (zI r_122), .int (zI (r_52 - Int.tdiv r_52 2 * 2)), .int (zI ((pl_drive (Int.tdiv r_52 2).toNat) - (pl_drive v1.toNat))), .ref (aDy 0)]) (kX5_overOf l D ca aLw aPl aRd aDy aLe lw_numbers pl_drive pl_marks pl_mostTaken pl_mostExtended v1 (Int.tdiv r_52 2) (r_52 - Int.tdiv r_52 2 * 2) r_122 hc_122) wml_RX5_143 wim_X5_overOf wse_X5_overOf win_RX5 wco_X5_overOf (nA := 3) rfl (by decide +kernel)  ⟨(Nat.le_of_ble_eq_true rfl), (Nat.le_of_ble_eq_true rfl)⟩ (Nat.le_refl _) (Nat.le_refl _) rfl (Nat.le_of_ble_eq_true rfl) dX5_tellDays_122 7 5 rfl rfl rfl [5, 6, 7, 9] [0, 1, 2, 3, 4, 8, 10, 11, 12, 13, 14, 15, 16, 17] rfl rfl rfl (by decide) (by decide) (by decide) rfl rfl (fun _ => rfl) rfl (fun _ => ?_)
          refine g_aload_n (pc := 125) C 3 dX5_tellDays_125 rfl rfl ?_
          refine g_iload_n (pc := 126) C 4 dX5_tellDays_126 rfl rfl ?_
          refine g_iload (pc := 127) C 1 dX5_tellDays_127 rfl ?_
          obtain ⟨r_129, hc_129, hf⟩ := Option.bind_eq_some_iff.mp hf
          refine g_callV (pc := 129) C hl0 (wr := [((aDy 3), .inl (ca 0, 61, .inl (zA dy_drive))), ((aDy 4), .inl (ca 0, 61, .inl (zA dy_extended))), ((aDy 6), .inl (ca 0, 61, .inl (zA dy_over))), ((aDy 7), .inl (ca 0, 61, .inl (zA dy_late))), ((aRd 0), .inr (6, [.ref (aRd 1), .ref (aRd 2), .ref (aRd 3), .ref (aRd 4), .ref (aRd 5), .int (zI rd_acts), .int (zI rd_total), .int (zI rd_drive), .int (zI rd_runs)])), ((aPl 7), .inl (ca 0, 62, .inl (zA pl_endedBy))), ((aPl 8), .inl (ca 2, 62, .inr (.inl (zB pl_ownPrice)))), (aLe, .inl (ca 2, pl_L, .inr (.inl (zB pl_least)))), ((aDy 0), .inr (3, [.ref (aDy 1), .ref (aDy 2), .ref (aDy 3), .ref (aDy 4), .ref (aDy 5), .ref (aDy 6), .ref (aDy 7), .int (zI dy_size_93)])), ((aDy 1), .inl (ca 0, 61, .inl (zA dy_from_93))), ((aDy 2), .inl (ca 0, 61, .inl (zA dy_to_93))), ((aDy 5), .inl (ca 0, 61, .inl (zA dy_endedBy_93))), ((aLw 0), .inr (4, [.ref (aLw 1), .ref (aLw 2)])), ((aLw 1), .inl (ca 0, 11, .inl (zA lw_numbers))), ((aPl 5), .inl (ca 0, 62, .inl (zA pl_drive)))]) (k' := 0) (n' := 0) (ws' := fun _ => [((aDy 3), .inl (ca 0, 61, .inl (zA dy_drive))), ((aDy 4), .inl (ca 0, 61, .inl (zA dy_extended))), ((aDy 6), .inl (ca 0, 61, .inl (zA dy_over))), ((aDy 7), .inl (ca 0, 61, .inl (zA dy_late))), ((aRd 0), .inr (6, [.ref (aRd 1), .ref (aRd 2), .ref (aRd 3), .ref (aRd 4), .ref (aRd 5), .int (zI rd_acts), .int (zI rd_total), .int (zI rd_drive), .int (zI rd_runs)])), ((aPl 7), .inl (ca 0, 62, .inl (zA pl_endedBy))), ((aPl 8), .inl (ca 2, 62, .inr (.inl (zB pl_ownPrice)))), (aLe, .inl (ca 2, pl_L, .inr (.inl (zB pl_least)))), ((aDy 0), .inr (3, [.ref (aDy 1), .ref (aDy 2), .ref (aDy 3), .ref (aDy 4), .ref (aDy 5), .ref (aDy 6), .ref (aDy 7), .int (zI dy_size_93)])), ((aDy 1), .inl (ca 0, 61, .inl (zA dy_from_93))), ((aDy 2), .inl (ca 0, 61, .inl (zA dy_to_93))), ((aDy 5), .inl (ca 0, 61, .inl (zA dy_endedBy_93))), ((aLw 0), .inr (4, [.ref (aLw 1), .ref (aLw 2)])), ((aLw 1), .inl (ca 0, 11, .inl (zA lw_numbers))), ((aPl 5), .inl (ca 0, 62, .inl (zA pl_drive))), ((aPl 0), .inr (5, [.ref (aLw 0), .ref (aRd 0), .ref (aDy 0), .ref (aPl 4), .ref (aPl 5), .ref (aPl 6), .ref (aPl 7), .ref (aPl 8), .int (zI pl_marks), .int (zI pl_mostTaken), .int (zI pl_mostExtended), .ref aLe])), ((aPl 4), .inl (ca 0, 62, .inl (zA pl_minute))), ((aPl 6), .inl (ca 0, 62, .inl (zA pl_enough)))]) (st' := [.int (zI r_129), .int (zI r_122), .int (zI (r_52 - Int.tdiv r_52 2 * 2)), .int (zI ((pl_drive (Int.tdiv r_52 2).toNat) - (pl_drive v1.toNat))), .ref (aDy 0)]) (kX5_lateOf l D ca aPl aLw aRd aDy aLe pl_minute pl_enough pl_marks pl_mostTaken pl_mostExtended v1 (Int.tdiv r_52 2) r_129 hc_129) wml_RX5_146 wim_X5_lateOf wse_X5_lateOf win_RX5 wco_X5_lateOf (nA := 2) rfl (by decide +kernel)  ⟨(Nat.le_of_ble_eq_true rfl), (Nat.le_of_ble_eq_true rfl)⟩ (Nat.le_refl _) (Nat.le_refl _) rfl (Nat.le_of_ble_eq_true rfl) dX5_tellDays_129 16 5 rfl rfl rfl [16, 5, 6] [0, 1, 2, 3, 4, 7, 8, 9, 10, 11, 12, 13, 14, 15, 17] rfl rfl rfl (by decide) (by decide) (by decide) rfl rfl (fun _ => rfl) rfl (fun _ => ?_)
          obtain ⟨⟨dy_drive_132, dy_extended_132, dy_over_132, dy_late_132⟩, hc_132, hf⟩ := Option.bind_eq_some_iff.mp hf
          dsimp only at hf
          refine g_callV (pc := 132) C hl0 (wr := [((aRd 0), .inr (6, [.ref (aRd 1), .ref (aRd 2), .ref (aRd 3), .ref (aRd 4), .ref (aRd 5), .int (zI rd_acts), .int (zI rd_total), .int (zI rd_drive), .int (zI rd_runs)])), ((aPl 7), .inl (ca 0, 62, .inl (zA pl_endedBy))), ((aPl 8), .inl (ca 2, 62, .inr (.inl (zB pl_ownPrice)))), (aLe, .inl (ca 2, pl_L, .inr (.inl (zB pl_least)))), ((aDy 1), .inl (ca 0, 61, .inl (zA dy_from_93))), ((aDy 2), .inl (ca 0, 61, .inl (zA dy_to_93))), ((aDy 5), .inl (ca 0, 61, .inl (zA dy_endedBy_93))), ((aLw 0), .inr (4, [.ref (aLw 1), .ref (aLw 2)])), ((aLw 1), .inl (ca 0, 11, .inl (zA lw_numbers))), ((aPl 5), .inl (ca 0, 62, .inl (zA pl_drive))), ((aPl 0), .inr (5, [.ref (aLw 0), .ref (aRd 0), .ref (aDy 0), .ref (aPl 4), .ref (aPl 5), .ref (aPl 6), .ref (aPl 7), .ref (aPl 8), .int (zI pl_marks), .int (zI pl_mostTaken), .int (zI pl_mostExtended), .ref aLe])), ((aPl 4), .inl (ca 0, 62, .inl (zA pl_minute))), ((aPl 6), .inl (ca 0, 62, .inl (zA pl_enough)))]) (k' := 0) (n' := 0) (ws' := fun _ => [((aRd 0), .inr (6, [.ref (aRd 1), .ref (aRd 2), .ref (aRd 3), .ref (aRd 4), .ref (aRd 5), .int (zI rd_acts), .int (zI rd_total), .int (zI rd_drive), .int (zI rd_runs)])), ((aPl 7), .inl (ca 0, 62, .inl (zA pl_endedBy))), ((aPl 8), .inl (ca 2, 62, .inr (.inl (zB pl_ownPrice)))), (aLe, .inl (ca 2, pl_L, .inr (.inl (zB pl_least)))), ((aDy 1), .inl (ca 0, 61, .inl (zA dy_from_93))), ((aDy 2), .inl (ca 0, 61, .inl (zA dy_to_93))), ((aDy 5), .inl (ca 0, 61, .inl (zA dy_endedBy_93))), ((aLw 0), .inr (4, [.ref (aLw 1), .ref (aLw 2)])), ((aLw 1), .inl (ca 0, 11, .inl (zA lw_numbers))), ((aPl 5), .inl (ca 0, 62, .inl (zA pl_drive))), ((aPl 0), .inr (5, [.ref (aLw 0), .ref (aRd 0), .ref (aDy 0), .ref (aPl 4), .ref (aPl 5), .ref (aPl 6), .ref (aPl 7), .ref (aPl 8), .int (zI pl_marks), .int (zI pl_mostTaken), .int (zI pl_mostExtended), .ref aLe])), ((aPl 4), .inl (ca 0, 62, .inl (zA pl_minute))), ((aPl 6), .inl (ca 0, 62, .inl (zA pl_enough))), ((aDy 0), .inr (3, [.ref (aDy 1), .ref (aDy 2), .ref (aDy 3), .ref (aDy 4), .ref (aDy 5), .ref (aDy 6), .ref (aDy 7), .int (zI dy_size_93)])), ((aDy 3), .inl (ca 0, 61, .inl (zA dy_drive_132))), ((aDy 4), .inl (ca 0, 61, .inl (zA dy_extended_132))), ((aDy 6), .inl (ca 0, 61, .inl (zA dy_over_132))), ((aDy 7), .inl (ca 0, 61, .inl (zA dy_late_132)))]) (st' := []) (kX3_setLast l D ca aDy dy_drive dy_extended dy_over dy_late dy_size_93 ((pl_drive (Int.tdiv r_52 2).toNat) - (pl_drive v1.toNat)) (r_52 - Int.tdiv r_52 2 * 2) r_122 r_129 (dy_drive_132, dy_extended_132, dy_over_132, dy_late_132) hc_132) wml_RX5_162 wim_X3_setLast wse_X3_setLast win_RX3 wco_X3_setLast (nA := 4) rfl (by decide +kernel)  ⟨(Nat.le_of_ble_eq_true rfl), (Nat.le_of_ble_eq_true rfl)⟩ (Nat.le_refl _) (Nat.le_refl _) rfl (Nat.le_of_ble_eq_true rfl) dX5_tellDays_132 8 3 rfl rfl rfl [8, 0, 1, 2, 3] [4, 5, 6, 7, 9, 10, 11, 12, 13, 14, 15, 16, 17] rfl rfl rfl (by decide) (by decide) (by decide) rfl rfl (fun _ => rfl) rfl (fun _ => ?_)
          refine g_aload_n (pc := 135) C 3 dX5_tellDays_135 rfl rfl ?_
          refine g_iload_n (pc := 136) C 4 dX5_tellDays_136 rfl rfl ?_
          refine g_iload (pc := 137) C 1 dX5_tellDays_137 rfl ?_
          refine g_iload_n (pc := 139) C 5 dX5_tellDays_139 rfl rfl ?_
          obtain ⟨r_140, hc_140, hf⟩ := Option.bind_eq_some_iff.mp hf
          refine g_callV (pc := 140) C hl0 (wr := [((aRd 0), .inr (6, [.ref (aRd 1), .ref (aRd 2), .ref (aRd 3), .ref (aRd 4), .ref (aRd 5), .int (zI rd_acts), .int (zI rd_total), .int (zI rd_drive), .int (zI rd_runs)])), ((aPl 8), .inl (ca 2, 62, .inr (.inl (zB pl_ownPrice)))), (aLe, .inl (ca 2, pl_L, .inr (.inl (zB pl_least)))), ((aDy 1), .inl (ca 0, 61, .inl (zA dy_from_93))), ((aDy 2), .inl (ca 0, 61, .inl (zA dy_to_93))), ((aDy 5), .inl (ca 0, 61, .inl (zA dy_endedBy_93))), ((aLw 0), .inr (4, [.ref (aLw 1), .ref (aLw 2)])), ((aLw 1), .inl (ca 0, 11, .inl (zA lw_numbers))), ((aPl 5), .inl (ca 0, 62, .inl (zA pl_drive))), ((aPl 6), .inl (ca 0, 62, .inl (zA pl_enough))), ((aDy 0), .inr (3, [.ref (aDy 1), .ref (aDy 2), .ref (aDy 3), .ref (aDy 4), .ref (aDy 5), .ref (aDy 6), .ref (aDy 7), .int (zI dy_size_93)])), ((aDy 3), .inl (ca 0, 61, .inl (zA dy_drive_132))), ((aDy 4), .inl (ca 0, 61, .inl (zA dy_extended_132))), ((aDy 6), .inl (ca 0, 61, .inl (zA dy_over_132))), ((aDy 7), .inl (ca 0, 61, .inl (zA dy_late_132)))]) (k' := 0) (n' := 0) (ws' := fun _ => [((aRd 0), .inr (6, [.ref (aRd 1), .ref (aRd 2), .ref (aRd 3), .ref (aRd 4), .ref (aRd 5), .int (zI rd_acts), .int (zI rd_total), .int (zI rd_drive), .int (zI rd_runs)])), ((aPl 8), .inl (ca 2, 62, .inr (.inl (zB pl_ownPrice)))), (aLe, .inl (ca 2, pl_L, .inr (.inl (zB pl_least)))), ((aDy 1), .inl (ca 0, 61, .inl (zA dy_from_93))), ((aDy 2), .inl (ca 0, 61, .inl (zA dy_to_93))), ((aDy 5), .inl (ca 0, 61, .inl (zA dy_endedBy_93))), ((aLw 0), .inr (4, [.ref (aLw 1), .ref (aLw 2)])), ((aLw 1), .inl (ca 0, 11, .inl (zA lw_numbers))), ((aPl 5), .inl (ca 0, 62, .inl (zA pl_drive))), ((aPl 6), .inl (ca 0, 62, .inl (zA pl_enough))), ((aDy 0), .inr (3, [.ref (aDy 1), .ref (aDy 2), .ref (aDy 3), .ref (aDy 4), .ref (aDy 5), .ref (aDy 6), .ref (aDy 7), .int (zI dy_size_93)])), ((aDy 3), .inl (ca 0, 61, .inl (zA dy_drive_132))), ((aDy 4), .inl (ca 0, 61, .inl (zA dy_extended_132))), ((aDy 6), .inl (ca 0, 61, .inl (zA dy_over_132))), ((aDy 7), .inl (ca 0, 61, .inl (zA dy_late_132))), ((aPl 0), .inr (5, [.ref (aLw 0), .ref (aRd 0), .ref (aDy 0), .ref (aPl 4), .ref (aPl 5), .ref (aPl 6), .ref (aPl 7), .ref (aPl 8), .int (zI pl_marks), .int (zI pl_mostTaken), .int (zI pl_mostExtended), .ref aLe])), ((aPl 4), .inl (ca 0, 62, .inl (zA pl_minute))), ((aPl 7), .inl (ca 0, 62, .inl (zA pl_endedBy)))]) (st' := [.int (zI r_140)]) (kX5_takenLeft l D ca aPl aLw aRd aDy aLe pl_minute pl_endedBy pl_marks pl_mostTaken pl_mostExtended v1 (Int.tdiv r_52 2) v2 r_140 hc_140) wml_RX5_131 wim_X5_takenLeft wse_X5_takenLeft win_RX5 wco_X5_takenLeft (nA := 3) rfl (by decide +kernel)  ⟨(Nat.le_of_ble_eq_true rfl), (Nat.le_of_ble_eq_true rfl)⟩ (Nat.le_refl _) (Nat.le_refl _) rfl (Nat.le_of_ble_eq_true rfl) dX5_tellDays_140 10 5 rfl rfl rfl [10, 11, 1] [0, 2, 3, 4, 5, 6, 7, 8, 9, 12, 13, 14, 15, 16, 17] rfl rfl rfl (by decide) (by decide) (by decide) rfl rfl (fun _ => rfl) rfl (fun _ => ?_)
          refine g_istore_n (pc := 143) C (lv' := [(2, .int (zI r_140)), (7, .int (zI (r_52 - Int.tdiv r_52 2 * 2))), (6, .int (zI (Int.tdiv r_52 2))), (5, .int (zI r_52)), (0, .ref (aPl 0)), (1, .int (zI v1)), (3, .int (zI v3)), (4, .int (zI v4))]) dX5_tellDays_143 rfl (Nat.le_of_ble_eq_true rfl) rfl ?_
          refine g_aload_n (pc := 144) C 4 dX5_tellDays_144 rfl rfl ?_
          refine g_iload_n (pc := 145) C 5 dX5_tellDays_145 rfl rfl ?_
          refine g_iload (pc := 146) C 2 dX5_tellDays_146 rfl ?_
          refine g_iload_n (pc := 148) C 6 dX5_tellDays_148 rfl rfl ?_
          refine g_iload (pc := 149) C 1 dX5_tellDays_149 rfl ?_
          refine g_isub (pc := 151) C dX5_tellDays_151 ?_
          obtain ⟨r_152, hc_152, hf⟩ := Option.bind_eq_some_iff.mp hf
          refine g_callV (pc := 152) C hl0 (wr := [((aRd 0), .inr (6, [.ref (aRd 1), .ref (aRd 2), .ref (aRd 3), .ref (aRd 4), .ref (aRd 5), .int (zI rd_acts), .int (zI rd_total), .int (zI rd_drive), .int (zI rd_runs)])), ((aPl 8), .inl (ca 2, 62, .inr (.inl (zB pl_ownPrice)))), (aLe, .inl (ca 2, pl_L, .inr (.inl (zB pl_least)))), ((aDy 1), .inl (ca 0, 61, .inl (zA dy_from_93))), ((aDy 2), .inl (ca 0, 61, .inl (zA dy_to_93))), ((aDy 5), .inl (ca 0, 61, .inl (zA dy_endedBy_93))), ((aLw 0), .inr (4, [.ref (aLw 1), .ref (aLw 2)])), ((aLw 1), .inl (ca 0, 11, .inl (zA lw_numbers))), ((aPl 5), .inl (ca 0, 62, .inl (zA pl_drive))), ((aPl 6), .inl (ca 0, 62, .inl (zA pl_enough))), ((aDy 0), .inr (3, [.ref (aDy 1), .ref (aDy 2), .ref (aDy 3), .ref (aDy 4), .ref (aDy 5), .ref (aDy 6), .ref (aDy 7), .int (zI dy_size_93)])), ((aDy 3), .inl (ca 0, 61, .inl (zA dy_drive_132))), ((aDy 4), .inl (ca 0, 61, .inl (zA dy_extended_132))), ((aDy 6), .inl (ca 0, 61, .inl (zA dy_over_132))), ((aDy 7), .inl (ca 0, 61, .inl (zA dy_late_132))), ((aPl 7), .inl (ca 0, 62, .inl (zA pl_endedBy)))]) (k' := 0) (n' := 0) (ws' := fun _ => [((aRd 0), .inr (6, [.ref (aRd 1), .ref (aRd 2), .ref (aRd 3), .ref (aRd 4), .ref (aRd 5), .int (zI rd_acts), .int (zI rd_total), .int (zI rd_drive), .int (zI rd_runs)])), ((aPl 8), .inl (ca 2, 62, .inr (.inl (zB pl_ownPrice)))), (aLe, .inl (ca 2, pl_L, .inr (.inl (zB pl_least)))), ((aDy 1), .inl (ca 0, 61, .inl (zA dy_from_93))), ((aDy 2), .inl (ca 0, 61, .inl (zA dy_to_93))), ((aDy 5), .inl (ca 0, 61, .inl (zA dy_endedBy_93))), ((aLw 0), .inr (4, [.ref (aLw 1), .ref (aLw 2)])), ((aLw 1), .inl (ca 0, 11, .inl (zA lw_numbers))), ((aPl 5), .inl (ca 0, 62, .inl (zA pl_drive))), ((aPl 6), .inl (ca 0, 62, .inl (zA pl_enough))), ((aDy 0), .inr (3, [.ref (aDy 1), .ref (aDy 2), .ref (aDy 3), .ref (aDy 4), .ref (aDy 5), .ref (aDy 6), .ref (aDy 7), .int (zI dy_size_93)])), ((aDy 3), .inl (ca 0, 61, .inl (zA dy_drive_132))), ((aDy 4), .inl (ca 0, 61, .inl (zA dy_extended_132))), ((aDy 6), .inl (ca 0, 61, .inl (zA dy_over_132))), ((aDy 7), .inl (ca 0, 61, .inl (zA dy_late_132))), ((aPl 7), .inl (ca 0, 62, .inl (zA pl_endedBy))), ((aPl 0), .inr (5, [.ref (aLw 0), .ref (aRd 0), .ref (aDy 0), .ref (aPl 4), .ref (aPl 5), .ref (aPl 6), .ref (aPl 7), .ref (aPl 8), .int (zI pl_marks), .int (zI pl_mostTaken), .int (zI pl_mostExtended), .ref aLe])), ((aPl 4), .inl (ca 0, 62, .inl (zA pl_minute)))]) (st' := [.int (zI r_152)]) (kX5_extendedLeft l D ca aPl aLw aRd aDy aLe pl_minute pl_marks pl_mostTaken pl_mostExtended v1 (Int.tdiv r_52 2) (v3 - (r_52 - Int.tdiv r_52 2 * 2)) r_152 hc_152) wml_RX5_134 wim_X5_extendedLeft wse_X5_extendedLeft win_RX5 wco_X5_extendedLeft (nA := 3) rfl (by decide +kernel)  ⟨(Nat.le_of_ble_eq_true rfl), (Nat.le_of_ble_eq_true rfl)⟩ (Nat.le_refl _) (Nat.le_refl _) rfl (Nat.le_of_ble_eq_true rfl) dX5_tellDays_152 15 5 rfl rfl rfl [15, 16] [0, 1, 2, 3, 4, 5, 6, 7, 8, 9, 10, 11, 12, 13, 14, 17] rfl rfl rfl (by decide) (by decide) (by decide) rfl rfl (fun _ => rfl) rfl (fun _ => ?_)
          refine g_istore_n (pc := 155) C (lv' := [(3, .int (zI r_152)), (2, .int (zI r_140)), (7, .int (zI (r_52 - Int.tdiv r_52 2 * 2))), (6, .int (zI (Int.tdiv r_52 2))), (5, .int (zI r_52)), (0, .ref (aPl 0)), (1, .int (zI v1)), (4, .int (zI v4))]) dX5_tellDays_155 rfl (Nat.le_of_ble_eq_true rfl) rfl ?_
          refine g_iload (pc := 156) C 3 dX5_tellDays_156 rfl ?_
          refine g_istore_n (pc := 158) C (lv' := [(1, .int (zI (Int.tdiv r_52 2))), (3, .int (zI r_152)), (2, .int (zI r_140)), (7, .int (zI (r_52 - Int.tdiv r_52 2 * 2))), (6, .int (zI (Int.tdiv r_52 2))), (5, .int (zI r_52)), (0, .ref (aPl 0)), (4, .int (zI v4))]) dX5_tellDays_158 rfl (Nat.le_of_ble_eq_true rfl) rfl ?_
          refine g_iinc (pc := 159) C 7 (lv' := [(4, .int (zI (v4 + 1))), (1, .int (zI (Int.tdiv r_52 2))), (3, .int (zI r_152)), (2, .int (zI r_140)), (7, .int (zI (r_52 - Int.tdiv r_52 2 * 2))), (6, .int (zI (Int.tdiv r_52 2))), (5, .int (zI r_52)), (0, .ref (aPl 0))]) dX5_tellDays_159 rfl (Nat.le_of_ble_eq_true rfl) rfl ?_
          refine g_goto (pc := 162) C (tgt := 23) dX5_tellDays_162 (by decide) ?_
          refine g_sub [10, 3, 4, 11, 12, 5, 13, 14, 6, 7, 16, 17, 8, 9, 15, 1, 2, 0] [7, 1, 3, 2, 0] (by decide) rfl rfl rfl ?_
          exact ih23 _ _ _ _ _ _ _ _ _ _ _ _ hf
  unfold fX5_tellDays at hf
  refine g_aload_n (pc := 0) C 0 dX5_tellDays_0 rfl rfl ?_
  refine g_get (pc := 1) C zf_X5_49 10 rfl rfl dX5_tellDays_1 ?_
  refine g_iconst (pc := 4) C dX5_tellDays_4 ?_
  refine g_put (pc := 5) C zf_X5_153 tyX3 tyX3_ok nmX3 (v := .int (zI 0)) (ws' := [((aDy 0), .inr (3, [.ref (aDy 1), .ref (aDy 2), .ref (aDy 3), .ref (aDy 4), .ref (aDy 5), .ref (aDy 6), .ref (aDy 7), .int (zI 0)])), ((aDy 1), .inl (ca 0, 61, .inl (zA dy_from))), ((aDy 2), .inl (ca 0, 61, .inl (zA dy_to))), ((aDy 3), .inl (ca 0, 61, .inl (zA dy_drive))), ((aDy 4), .inl (ca 0, 61, .inl (zA dy_extended))), ((aDy 5), .inl (ca 0, 61, .inl (zA dy_endedBy))), ((aDy 6), .inl (ca 0, 61, .inl (zA dy_over))), ((aDy 7), .inl (ca 0, 61, .inl (zA dy_late))), ((aLw 0), .inr (4, [.ref (aLw 1), .ref (aLw 2)])), ((aLw 1), .inl (ca 0, 11, .inl (zA lw_numbers))), ((aPl 0), .inr (5, [.ref (aLw 0), .ref (aRd 0), .ref (aDy 0), .ref (aPl 4), .ref (aPl 5), .ref (aPl 6), .ref (aPl 7), .ref (aPl 8), .int (zI pl_marks), .int (zI pl_mostTaken), .int (zI pl_mostExtended), .ref aLe])), ((aPl 4), .inl (ca 0, 62, .inl (zA pl_minute))), ((aPl 5), .inl (ca 0, 62, .inl (zA pl_drive))), ((aPl 6), .inl (ca 0, 62, .inl (zA pl_enough))), ((aPl 7), .inl (ca 0, 62, .inl (zA pl_endedBy))), ((aPl 8), .inl (ca 2, 62, .inr (.inl (zB pl_ownPrice)))), (aLe, .inl (ca 2, pl_L, .inr (.inl (zB pl_least)))), ((aRd 0), .inr (6, [.ref (aRd 1), .ref (aRd 2), .ref (aRd 3), .ref (aRd 4), .ref (aRd 5), .int (zI rd_acts), .int (zI rd_total), .int (zI rd_drive), .int (zI rd_runs)]))]) 0 rfl rfl rfl rfl rfl (Nat.le_of_ble_eq_true rfl) rfl rfl dX5_tellDays_5 ?_
  refine g_iconst (pc := 8) C dX5_tellDays_8 ?_
  refine g_istore_n (pc := 9) C (lv' := [(1, .int (zI 0)), (0, .ref (aPl 0))]) dX5_tellDays_9 rfl (Nat.le_of_ble_eq_true rfl) rfl ?_
  refine g_aload_n (pc := 10) C 1 dX5_tellDays_10 rfl rfl ?_
  refine g_get (pc := 11) C zf_X5_32 10 rfl rfl dX5_tellDays_11 ?_
  refine g_istore_n (pc := 14) C (lv' := [(2, .int (zI pl_mostTaken)), (1, .int (zI 0)), (0, .ref (aPl 0))]) dX5_tellDays_14 rfl (Nat.le_of_ble_eq_true rfl) rfl ?_
  refine g_aload_n (pc := 15) C 2 dX5_tellDays_15 rfl rfl ?_
  refine g_get (pc := 16) C zf_X5_35 10 rfl rfl dX5_tellDays_16 ?_
  refine g_istore_n (pc := 19) C (lv' := [(3, .int (zI pl_mostExtended)), (2, .int (zI pl_mostTaken)), (1, .int (zI 0)), (0, .ref (aPl 0))]) dX5_tellDays_19 rfl (Nat.le_of_ble_eq_true rfl) rfl ?_
  refine g_iconst (pc := 20) C dX5_tellDays_20 ?_
  refine g_istore (pc := 21) C (lv' := [(4, .int (zI 0)), (3, .int (zI pl_mostExtended)), (2, .int (zI pl_mostTaken)), (1, .int (zI 0)), (0, .ref (aPl 0))]) dX5_tellDays_21 (Nat.le_of_ble_eq_true rfl) rfl ?_
  refine g_sub [0, 1, 2, 3, 4, 5, 6, 7, 8, 9, 10, 11, 12, 13, 14, 15, 16, 17] [4, 3, 2, 1, 0] (by decide) rfl rfl rfl ?_
  exact H23 _ _ _ _ _ _ _ _ _ _ _ _ _ hf
