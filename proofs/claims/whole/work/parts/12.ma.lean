def oX7_append (ca : Nat → ClassId) (aTp : Nat → Nat)  (Ro : (Nat → Int) × Int) : (Nat → Nat) → va_W := fun _ => [((aTp 0), .inr (7, [.ref (aTp 1), .int (zI (Ro.2))])), ((aTp 1), .inl (ca 0, 80, .inl (zA (Ro.1))))]
def oiX7_append (Ro : (Nat → Int) × Int) : Option Value := none
set_option maxRecDepth 100000 in
theorem kX7_append (l : Launch) (D : va_G) (ca : Nat → ClassId) (aTp : Nat → Nat) (tp_bytes : Nat → Int) (tp_size : Int) (v1 : Int) (Ro : (Nat → Int) × Int)
    (hf : fX7_append v1 tp_bytes tp_size = some Ro) : Zc l D ca yX7_append cX7_append 3 none { frames := 0, cells := 0, slots := 0, locals := 0 } [.ref (aTp 0), .int (zI v1)] [((aTp 0), .inr (7, [.ref (aTp 1), .int (zI tp_size)])), ((aTp 1), .inl (ca 0, 80, .inl (zA tp_bytes)))] (oiX7_append Ro) (oX7_append ca aTp Ro) := by
  refine ctr_of (lv := [(0, .ref (aTp 0)), (1, .int (zI v1))]) (by decide +kernel) (Nat.le_of_ble_eq_true rfl) rfl (fun Γ hl0 C E hnm => ?_)
  have H3 : ∀  (n3 : Nat) (v2 : Int) (tp_bytes : Nat → Int) (tp_size : Int), zlp (fX7_append_3 v1) n3 (v2, tp_bytes, tp_size) = some Ro → Zd D Γ 0 0 [((aTp 0), .inr (7, [.ref (aTp 1), .int (zI tp_size)])), ((aTp 1), .inl (ca 0, 80, .inl (zA tp_bytes)))] 3 [(0, .ref (aTp 0)), (1, .int (zI v1)), (2, .int (zI v2))] [] := by
    intro n3
    induction n3 with
    | zero =>
      intro v2 tp_bytes tp_size hf
      exact zno hf
    | succ n3 ih3 =>
      intro v2 tp_bytes tp_size hf
      rw [zlp_s] at hf
      unfold fX7_append_3 at hf
      dsimp only at hf
      refine g_iload_n (pc := 3) C 2 dX7_append_3 rfl rfl ?_
      refine g_if_lt (pc := 4) C (tgt := 48) dX7_append_4 (by decide) hf (fun hf => ?_) (fun hf => ?_)
      · exact g_vret (pc := 48) C hf E rfl (fun _ => 0) [0, 1] (by decide) rfl rfl (Nat.le_refl _) (Nat.le_refl _) dX7_append_48
      · refine g_aload_n (pc := 7) C 0 dX7_append_7 rfl rfl ?_
        refine g_get (pc := 8) C zf_X7_13 0 rfl rfl dX7_append_8 ?_
        refine g_bipush (pc := 11) C dX7_append_11 (by decide) ?_
        refine g_icmp_ger (pc := 13) C (tgt := 48) dX7_append_13 (by decide) (by decide) hf (fun hf => ?_) (fun hf => ?_)
        · exact g_vret (pc := 48) C hf E rfl (fun _ => 0) [0, 1] (by decide) rfl rfl (Nat.le_refl _) (Nat.le_refl _) dX7_append_48
        · refine g_aload_n (pc := 16) C 0 dX7_append_16 rfl rfl ?_
          refine g_get (pc := 17) C zf_X7_9 0 rfl rfl dX7_append_17 ?_
          refine g_aload_n (pc := 20) C 0 dX7_append_20 rfl rfl ?_
          refine g_get (pc := 21) C zf_X7_13 0 rfl rfl dX7_append_21 ?_
          refine g_iload_n (pc := 24) C 1 dX7_append_24 rfl rfl ?_
          refine g_iload_n (pc := 25) C 2 dX7_append_25 rfl rfl ?_
          refine g_iushr (pc := 26) C dX7_append_26 ?_
          refine g_sipush (pc := 27) C dX7_append_27 (by decide) ?_
          refine g_iand (pc := 30) C dX7_append_30 ?_
          refine g_iast (pc := 31) C (N := 80) (ws' := [((aTp 0), .inr (7, [.ref (aTp 1), .int (zI tp_size)])), ((aTp 1), .inl (ca 0, 80, .inl (zA (zU tp_bytes tp_size.toNat (zand (zushr v1 v2) 255)))))]) 1 rfl rfl (Nat.le_of_ble_eq_true rfl) rfl dX7_append_31 hf (fun hf => ?_)
          refine g_aload_n (pc := 32) C 0 dX7_append_32 rfl rfl ?_
          refine g_dup (pc := 33) C dX7_append_33 rfl ?_
          refine g_get (pc := 34) C zf_X7_13 0 rfl rfl dX7_append_34 ?_
          refine g_iconst (pc := 37) C dX7_append_37 ?_
          refine g_iadd (pc := 38) C dX7_append_38 ?_
          refine g_put (pc := 39) C zf_X7_13 tyX7 tyX7_ok nmX7 (v := .int (zI (tp_size + 1))) (ws' := [((aTp 0), .inr (7, [.ref (aTp 1), .int (zI (tp_size + 1))])), ((aTp 1), .inl (ca 0, 80, .inl (zA (zU tp_bytes tp_size.toNat (zand (zushr v1 v2) 255)))))]) 0 rfl rfl rfl rfl rfl (Nat.le_of_ble_eq_true rfl) rfl rfl dX7_append_39 ?_
          refine g_iinc (pc := 42) C 2 (lv' := [(2, .int (zI (v2 + (-8)))), (0, .ref (aTp 0)), (1, .int (zI v1))]) dX7_append_42 rfl (Nat.le_of_ble_eq_true rfl) rfl ?_
          refine g_goto (pc := 45) C (tgt := 3) dX7_append_45 (by decide) ?_
          refine g_sub [0, 1] [1, 2, 0] (by decide) rfl rfl rfl ?_
          exact ih3 _ _ _ hf
  unfold fX7_append at hf
  refine g_bipush (pc := 0) C dX7_append_0 (by decide) ?_
  refine g_istore_n (pc := 2) C (lv' := [(2, .int (zI 24)), (0, .ref (aTp 0)), (1, .int (zI v1))]) dX7_append_2 rfl (Nat.le_of_ble_eq_true rfl) rfl ?_
  refine g_sub [0, 1] [1, 2, 0] (by decide) rfl rfl rfl ?_
  exact H3 _ _ _ _ hf
def oX7_hasRoom (ca : Nat → ClassId) (aTp : Nat → Nat) (tp_size : Int) (Ro : Int) : (Nat → Nat) → va_W := fun _ => [((aTp 0), .inr (7, [.ref (aTp 1), .int (zI tp_size)]))]
def oiX7_hasRoom (Ro : Int) : Option Value := (some (.int (zI Ro)))
set_option maxRecDepth 100000 in
theorem kX7_hasRoom (l : Launch) (D : va_G) (ca : Nat → ClassId) (aTp : Nat → Nat) (tp_size : Int)  (Ro : Int)
    (hf : fX7_hasRoom tp_size = some Ro) : Zc l D ca yX7_hasRoom cX7_hasRoom 1 (some .boolean) { frames := 0, cells := 0, slots := 0, locals := 0 } [.ref (aTp 0)] [((aTp 0), .inr (7, [.ref (aTp 1), .int (zI tp_size)]))] (oiX7_hasRoom Ro) (oX7_hasRoom ca aTp tp_size Ro) := by
  refine ctr_of (lv := [(0, .ref (aTp 0))]) (by decide +kernel) (Nat.le_of_ble_eq_true rfl) rfl (fun Γ hl0 C E hnm => ?_)
  unfold fX7_hasRoom at hf
  refine g_aload_n (pc := 0) C 0 dX7_hasRoom_0 rfl rfl ?_
  refine g_get (pc := 1) C zf_X7_13 0 rfl rfl dX7_hasRoom_1 ?_
  refine g_bipush (pc := 4) C dX7_hasRoom_4 (by decide) ?_
  refine g_icmp_gtr (pc := 6) C (tgt := 13) dX7_hasRoom_6 (by decide) (by decide) hf (fun hf => ?_) (fun hf => ?_)
  · refine g_iconst (pc := 13) C dX7_hasRoom_13 ?_
    exact g_zret (pc := 14) C hf E (by decide) rfl (fun _ => 0) [0] (by decide) rfl rfl (Nat.le_refl _) (Nat.le_refl _) dX7_hasRoom_14
  · refine g_iconst (pc := 9) C dX7_hasRoom_9 ?_
    refine g_goto (pc := 10) C (tgt := 14) dX7_hasRoom_10 (by decide) ?_
    exact g_zret (pc := 14) C hf E (by decide) rfl (fun _ => 0) [0] (by decide) rfl rfl (Nat.le_refl _) (Nat.le_refl _) dX7_hasRoom_14
def oX1_change (ca : Nat → ClassId) (aCd : Nat → Nat) (cd_acts : Int) (Ro : (Nat → Int) × (Nat → Int)) : (Nat → Nat) → va_W := fun _ => [((aCd 0), .inr (1, [.ref (aCd 1), .ref (aCd 2), .ref (aCd 3), .int (zI cd_acts)])), ((aCd 1), .inl (ca 0, 60, .inl (zA (Ro.1)))), ((aCd 2), .inl (ca 0, 60, .inl (zA (Ro.2))))]
def oiX1_change (Ro : (Nat → Int) × (Nat → Int)) : Option Value := none
set_option maxRecDepth 100000 in
theorem kX1_change (l : Launch) (D : va_G) (ca : Nat → ClassId) (aCd : Nat → Nat) (cd_kind : Nat → Int) (cd_vehicle : Nat → Int) (cd_acts : Int) (v1 : Int) (v2 : Int) (v3 : Int) (Ro : (Nat → Int) × (Nat → Int))
    (hf : fX1_change v1 v2 v3 cd_kind cd_vehicle = some Ro) : Zc l D ca yX1_change cX1_change 4 none { frames := 0, cells := 0, slots := 0, locals := 0 } [.ref (aCd 0), .int (zI v1), .int (zI v2), .int (zI v3)] [((aCd 0), .inr (1, [.ref (aCd 1), .ref (aCd 2), .ref (aCd 3), .int (zI cd_acts)])), ((aCd 1), .inl (ca 0, 60, .inl (zA cd_kind))), ((aCd 2), .inl (ca 0, 60, .inl (zA cd_vehicle)))] (oiX1_change Ro) (oX1_change ca aCd cd_acts Ro) := by
  refine ctr_of (lv := [(0, .ref (aCd 0)), (1, .int (zI v1)), (2, .int (zI v2)), (3, .int (zI v3))]) (by decide +kernel) (Nat.le_of_ble_eq_true rfl) rfl (fun Γ hl0 C E hnm => ?_)
  have H21 : ∀ (s1 : Int) (s2 : Int) (cd_kind : Nat → Int) (cd_vehicle : Nat → Int), fX1_change_21 s1 s2 cd_kind cd_vehicle = some Ro → Zd D Γ 0 0 [((aCd 0), .inr (1, [.ref (aCd 1), .ref (aCd 2), .ref (aCd 3), .int (zI cd_acts)])), ((aCd 1), .inl (ca 0, 60, .inl (zA cd_kind))), ((aCd 2), .inl (ca 0, 60, .inl (zA cd_vehicle)))] 21 [] [.int (zI s2), .int (zI s1), .ref (aCd 2)] := by
    intro s1 s2 cd_kind cd_vehicle hf
    unfold fX1_change_21 at hf
    refine g_iast (pc := 21) C (N := 60) (ws' := [((aCd 0), .inr (1, [.ref (aCd 1), .ref (aCd 2), .ref (aCd 3), .int (zI cd_acts)])), ((aCd 1), .inl (ca 0, 60, .inl (zA cd_kind))), ((aCd 2), .inl (ca 0, 60, .inl (zA (zU cd_vehicle s1.toNat s2))))]) 2 rfl rfl (Nat.le_of_ble_eq_true rfl) rfl dX1_change_21 hf (fun hf => ?_)
    exact g_vret (pc := 22) C hf E rfl (fun _ => 0) [0, 1, 2] (by decide) rfl rfl (Nat.le_refl _) (Nat.le_refl _) dX1_change_22
  unfold fX1_change at hf
  refine g_aload_n (pc := 0) C 0 dX1_change_0 rfl rfl ?_
  refine g_get (pc := 1) C zf_X1_9 0 rfl rfl dX1_change_1 ?_
  refine g_iload_n (pc := 4) C 1 dX1_change_4 rfl rfl ?_
  refine g_iload_n (pc := 5) C 2 dX1_change_5 rfl rfl ?_
  refine g_iast (pc := 6) C (N := 60) (ws' := [((aCd 0), .inr (1, [.ref (aCd 1), .ref (aCd 2), .ref (aCd 3), .int (zI cd_acts)])), ((aCd 1), .inl (ca 0, 60, .inl (zA (zU cd_kind v1.toNat v2)))), ((aCd 2), .inl (ca 0, 60, .inl (zA cd_vehicle)))]) 1 rfl rfl (Nat.le_of_ble_eq_true rfl) rfl dX1_change_6 hf (fun hf => ?_)
  refine g_aload_n (pc := 7) C 0 dX1_change_7 rfl rfl ?_
  refine g_get (pc := 8) C zf_X1_15 0 rfl rfl dX1_change_8 ?_
  refine g_iload_n (pc := 11) C 1 dX1_change_11 rfl rfl ?_
  refine g_iload_n (pc := 12) C 2 dX1_change_12 rfl rfl ?_
  refine g_if_ne (pc := 13) C (tgt := 20) dX1_change_13 (by decide) hf (fun hf => ?_) (fun hf => ?_)
  · refine g_iconst (pc := 20) C dX1_change_20 ?_
    refine g_sub [0, 1, 2] [] (by decide) rfl rfl rfl ?_
    exact H21 _ _ _ _ hf
  · refine g_iload_n (pc := 16) C 3 dX1_change_16 rfl rfl ?_
    refine g_goto (pc := 17) C (tgt := 21) dX1_change_17 (by decide) ?_
    refine g_sub [0, 1, 2] [] (by decide) rfl rfl rfl ?_
    exact H21 _ _ _ _ hf
def oX1_append (ca : Nat → ClassId) (aCd : Nat → Nat)  (Ro : Int × (Nat → Int) × (Nat → Int) × (Nat → Int) × Int) : (Nat → Nat) → va_W := fun _ => [((aCd 0), .inr (1, [.ref (aCd 1), .ref (aCd 2), .ref (aCd 3), .int (zI (Ro.2.2.2.2))])), ((aCd 1), .inl (ca 0, 60, .inl (zA (Ro.2.1)))), ((aCd 2), .inl (ca 0, 60, .inl (zA (Ro.2.2.1)))), ((aCd 3), .inl (ca 0, 61, .inl (zA (Ro.2.2.2.1))))]
def oiX1_append (Ro : Int × (Nat → Int) × (Nat → Int) × (Nat → Int) × Int) : Option Value := (some (.int (zI Ro.1)))
set_option maxRecDepth 100000 in
theorem kX1_append (l : Launch) (D : va_G) (ca : Nat → ClassId) (aCd : Nat → Nat) (cd_kind : Nat → Int) (cd_vehicle : Nat → Int) (cd_begin : Nat → Int) (cd_acts : Int) (v1 : Int) (v2 : Int) (v3 : Int) (Ro : Int × (Nat → Int) × (Nat → Int) × (Nat → Int) × Int)
    (hf : fX1_append v1 v2 v3 cd_kind cd_vehicle cd_begin cd_acts = some Ro) : Zc l D ca yX1_append cX1_append 5 (some .int) { frames := 1, cells := 0, slots := 0, locals := 23 } [.ref (aCd 0), .int (zI v1), .int (zI v2), .int (zI v3)] [((aCd 0), .inr (1, [.ref (aCd 1), .ref (aCd 2), .ref (aCd 3), .int (zI cd_acts)])), ((aCd 1), .inl (ca 0, 60, .inl (zA cd_kind))), ((aCd 2), .inl (ca 0, 60, .inl (zA cd_vehicle))), ((aCd 3), .inl (ca 0, 61, .inl (zA cd_begin)))] (oiX1_append Ro) (oX1_append ca aCd Ro) := by
  refine ctr_of (lv := [(0, .ref (aCd 0)), (1, .int (zI v1)), (2, .int (zI v2)), (3, .int (zI v3))]) (by decide +kernel) (Nat.le_of_ble_eq_true rfl) rfl (fun Γ hl0 C E hnm => ?_)
  unfold fX1_append at hf
  refine g_aload_n (pc := 0) C 0 dX1_append_0 rfl rfl ?_
  refine g_get (pc := 1) C zf_X1_21 0 rfl rfl dX1_append_1 ?_
  refine g_istore (pc := 4) C (lv' := [(4, .int (zI cd_acts)), (0, .ref (aCd 0)), (1, .int (zI v1)), (2, .int (zI v2)), (3, .int (zI v3))]) dX1_append_4 (Nat.le_of_ble_eq_true rfl) rfl ?_
  refine g_aload_n (pc := 6) C 1 dX1_append_6 rfl rfl ?_
  refine g_dup (pc := 7) C dX1_append_7 rfl ?_
  refine g_get (pc := 8) C zf_X1_21 0 rfl rfl dX1_append_8 ?_
  refine g_iconst (pc := 11) C dX1_append_11 ?_
  refine g_iadd (pc := 12) C dX1_append_12 ?_
  refine g_put (pc := 13) C zf_X1_21 tyX1 tyX1_ok nmX1 (v := .int (zI (cd_acts + 1))) (ws' := [((aCd 0), .inr (1, [.ref (aCd 1), .ref (aCd 2), .ref (aCd 3), .int (zI (cd_acts + 1))])), ((aCd 1), .inl (ca 0, 60, .inl (zA cd_kind))), ((aCd 2), .inl (ca 0, 60, .inl (zA cd_vehicle))), ((aCd 3), .inl (ca 0, 61, .inl (zA cd_begin)))]) 0 rfl rfl rfl rfl rfl (Nat.le_of_ble_eq_true rfl) rfl rfl dX1_append_13 ?_
  refine g_aload_n (pc := 16) C 1 dX1_append_16 rfl rfl ?_
  refine g_get (pc := 17) C zf_X1_18 0 rfl rfl dX1_append_17 ?_
  refine g_aload_n (pc := 20) C 1 dX1_append_20 rfl rfl ?_
  refine g_get (pc := 21) C zf_X1_21 0 rfl rfl dX1_append_21 ?_
  refine g_aload_n (pc := 24) C 1 dX1_append_24 rfl rfl ?_
  refine g_get (pc := 25) C zf_X1_18 0 rfl rfl dX1_append_25 ?_
  refine g_iload (pc := 28) C 0 dX1_append_28 rfl ?_
  refine g_iald (pc := 30) C (N := 61) 3 rfl rfl (Nat.le_of_ble_eq_true rfl) dX1_append_30 hf (fun hf => ?_)
  refine g_iload_n (pc := 31) C 3 dX1_append_31 rfl rfl ?_
  refine g_iadd (pc := 32) C dX1_append_32 ?_
  refine g_iast (pc := 33) C (N := 61) (ws' := [((aCd 0), .inr (1, [.ref (aCd 1), .ref (aCd 2), .ref (aCd 3), .int (zI (cd_acts + 1))])), ((aCd 1), .inl (ca 0, 60, .inl (zA cd_kind))), ((aCd 2), .inl (ca 0, 60, .inl (zA cd_vehicle))), ((aCd 3), .inl (ca 0, 61, .inl (zA (zU cd_begin (cd_acts + 1).toNat ((cd_begin cd_acts.toNat) + v2)))))]) 3 rfl rfl (Nat.le_of_ble_eq_true rfl) rfl dX1_append_33 hf (fun hf => ?_)
  refine g_aload_n (pc := 34) C 1 dX1_append_34 rfl rfl ?_
  refine g_iload (pc := 35) C 0 dX1_append_35 rfl ?_
  refine g_iload_n (pc := 37) C 2 dX1_append_37 rfl rfl ?_
  refine g_iload_n (pc := 38) C 4 dX1_append_38 rfl rfl ?_
  obtain ⟨⟨cd_kind_39, cd_vehicle_39⟩, hc_39, hf⟩ := Option.bind_eq_some_iff.mp hf
  dsimp only at hf
  refine g_callV (pc := 39) C hl0 (wr := [((aCd 3), .inl (ca 0, 61, .inl (zA (zU cd_begin (cd_acts + 1).toNat ((cd_begin cd_acts.toNat) + v2)))))]) (k' := 0) (n' := 0) (ws' := fun _ => [((aCd 3), .inl (ca 0, 61, .inl (zA (zU cd_begin (cd_acts + 1).toNat ((cd_begin cd_acts.toNat) + v2))))), ((aCd 0), .inr (1, [.ref (aCd 1), .ref (aCd 2), .ref (aCd 3), .int (zI (cd_acts + 1))])), ((aCd 1), .inl (ca 0, 60, .inl (zA cd_kind_39))), ((aCd 2), .inl (ca 0, 60, .inl (zA cd_vehicle_39)))]) (st' := []) (kX1_change l D ca aCd cd_kind cd_vehicle (cd_acts + 1) cd_acts v1 v3 (cd_kind_39, cd_vehicle_39) hc_39) wml_RX1_25 wim_X1_change wse_X1_change win_RX1 wco_X1_change (nA := 3) rfl (by decide +kernel)  ⟨(Nat.le_of_ble_eq_true rfl), (Nat.le_of_ble_eq_true rfl)⟩ (Nat.le_refl _) (Nat.le_refl _) rfl (Nat.le_of_ble_eq_true rfl) dX1_append_39 0 1 rfl rfl rfl [0, 1, 2] [3] rfl rfl rfl (by decide) (by decide) (by decide) rfl rfl (fun _ => rfl) rfl (fun _ => ?_)
  refine g_iload (pc := 42) C 0 dX1_append_42 rfl ?_
  exact g_iret (pc := 44) C hf E rfl (fun _ => 0) [1, 2, 3, 0] (by decide) rfl rfl (Nat.le_refl _) (Nat.le_refl _) dX1_append_44
def oX1_drives (ca : Nat → ClassId) (aCd : Nat → Nat) (cd_kind : Nat → Int) (cd_vehicle : Nat → Int) (cd_acts : Int) (Ro : Int) : (Nat → Nat) → va_W := fun _ => [((aCd 0), .inr (1, [.ref (aCd 1), .ref (aCd 2), .ref (aCd 3), .int (zI cd_acts)])), ((aCd 1), .inl (ca 0, 60, .inl (zA cd_kind))), ((aCd 2), .inl (ca 0, 60, .inl (zA cd_vehicle)))]
def oiX1_drives (Ro : Int) : Option Value := (some (.int (zI Ro)))
set_option maxRecDepth 100000 in
theorem kX1_drives (l : Launch) (D : va_G) (ca : Nat → ClassId) (aCd : Nat → Nat) (cd_kind : Nat → Int) (cd_vehicle : Nat → Int) (cd_acts : Int) (v1 : Int) (v2 : Int) (Ro : Int)
    (hf : fX1_drives v1 v2 cd_kind cd_vehicle = some Ro) : Zc l D ca yX1_drives cX1_drives 3 (some .boolean) { frames := 0, cells := 0, slots := 0, locals := 0 } [.ref (aCd 0), .int (zI v1), .int (zI v2)] [((aCd 0), .inr (1, [.ref (aCd 1), .ref (aCd 2), .ref (aCd 3), .int (zI cd_acts)])), ((aCd 1), .inl (ca 0, 60, .inl (zA cd_kind))), ((aCd 2), .inl (ca 0, 60, .inl (zA cd_vehicle)))] (oiX1_drives Ro) (oX1_drives ca aCd cd_kind cd_vehicle cd_acts Ro) := by
  refine ctr_of (lv := [(0, .ref (aCd 0)), (1, .int (zI v1)), (2, .int (zI v2))]) (by decide +kernel) (Nat.le_of_ble_eq_true rfl) rfl (fun Γ hl0 C E hnm => ?_)
  have H23 : fX1_drives_23 = some Ro → Zd D Γ 0 0 [((aCd 0), .inr (1, [.ref (aCd 1), .ref (aCd 2), .ref (aCd 3), .int (zI cd_acts)])), ((aCd 1), .inl (ca 0, 60, .inl (zA cd_kind))), ((aCd 2), .inl (ca 0, 60, .inl (zA cd_vehicle)))] 23 [] [] := by
    intro  hf
    unfold fX1_drives_23 at hf
    refine g_iconst (pc := 23) C dX1_drives_23 ?_
    exact g_zret (pc := 24) C hf E (by decide) rfl (fun _ => 0) [0, 1, 2] (by decide) rfl rfl (Nat.le_refl _) (Nat.le_refl _) dX1_drives_24
  unfold fX1_drives at hf
  refine g_aload_n (pc := 0) C 0 dX1_drives_0 rfl rfl ?_
  refine g_get (pc := 1) C zf_X1_9 0 rfl rfl dX1_drives_1 ?_
  refine g_iload_n (pc := 4) C 1 dX1_drives_4 rfl rfl ?_
  refine g_iald (pc := 5) C (N := 60) 1 rfl rfl (Nat.le_of_ble_eq_true rfl) dX1_drives_5 hf (fun hf => ?_)
  refine g_if_ne (pc := 6) C (tgt := 23) dX1_drives_6 (by decide) hf (fun hf => ?_) (fun hf => ?_)
  · refine g_sub [0, 1, 2] [] (by decide) rfl rfl rfl ?_
    exact H23  hf
  · refine g_aload_n (pc := 9) C 0 dX1_drives_9 rfl rfl ?_
    refine g_get (pc := 10) C zf_X1_15 0 rfl rfl dX1_drives_10 ?_
    refine g_iload_n (pc := 13) C 1 dX1_drives_13 rfl rfl ?_
    refine g_iald (pc := 14) C (N := 60) 2 rfl rfl (Nat.le_of_ble_eq_true rfl) dX1_drives_14 hf (fun hf => ?_)
    refine g_iload_n (pc := 15) C 2 dX1_drives_15 rfl rfl ?_
    refine g_icmp_ne (pc := 16) C (tgt := 23) dX1_drives_16 (by decide) hf (fun hf => ?_) (fun hf => ?_)
    · refine g_sub [0, 1, 2] [] (by decide) rfl rfl rfl ?_
      exact H23  hf
    · refine g_iconst (pc := 19) C dX1_drives_19 ?_
      refine g_goto (pc := 20) C (tgt := 24) dX1_drives_20 (by decide) ?_
      exact g_zret (pc := 24) C hf E (by decide) rfl (fun _ => 0) [0, 1, 2] (by decide) rfl rfl (Nat.le_refl _) (Nat.le_refl _) dX1_drives_24
def oX1_has (ca : Nat → ClassId) (aCd : Nat → Nat) (cd_acts : Int) (Ro : Int) : (Nat → Nat) → va_W := fun _ => [((aCd 0), .inr (1, [.ref (aCd 1), .ref (aCd 2), .ref (aCd 3), .int (zI cd_acts)]))]
def oiX1_has (Ro : Int) : Option Value := (some (.int (zI Ro)))
set_option maxRecDepth 100000 in
theorem kX1_has (l : Launch) (D : va_G) (ca : Nat → ClassId) (aCd : Nat → Nat) (cd_acts : Int) (v1 : Int) (Ro : Int)
    (hf : fX1_has v1 cd_acts = some Ro) : Zc l D ca yX1_has cX1_has 2 (some .boolean) { frames := 0, cells := 0, slots := 0, locals := 0 } [.ref (aCd 0), .int (zI v1)] [((aCd 0), .inr (1, [.ref (aCd 1), .ref (aCd 2), .ref (aCd 3), .int (zI cd_acts)]))] (oiX1_has Ro) (oX1_has ca aCd cd_acts Ro) := by
  refine ctr_of (lv := [(0, .ref (aCd 0)), (1, .int (zI v1))]) (by decide +kernel) (Nat.le_of_ble_eq_true rfl) rfl (fun Γ hl0 C E hnm => ?_)
  have H16 : fX1_has_16 = some Ro → Zd D Γ 0 0 [((aCd 0), .inr (1, [.ref (aCd 1), .ref (aCd 2), .ref (aCd 3), .int (zI cd_acts)]))] 16 [] [] := by
    intro  hf
    unfold fX1_has_16 at hf
    refine g_iconst (pc := 16) C dX1_has_16 ?_
    exact g_zret (pc := 17) C hf E (by decide) rfl (fun _ => 0) [0] (by decide) rfl rfl (Nat.le_refl _) (Nat.le_refl _) dX1_has_17
  unfold fX1_has at hf
  refine g_iload_n (pc := 0) C 1 dX1_has_0 rfl rfl ?_
  refine g_if_lt (pc := 1) C (tgt := 16) dX1_has_1 (by decide) hf (fun hf => ?_) (fun hf => ?_)
  · refine g_sub [0] [] (by decide) rfl rfl rfl ?_
    exact H16  hf
  · refine g_iload_n (pc := 4) C 1 dX1_has_4 rfl rfl ?_
    refine g_aload_n (pc := 5) C 0 dX1_has_5 rfl rfl ?_
    refine g_get (pc := 6) C zf_X1_21 0 rfl rfl dX1_has_6 ?_
    refine g_icmp_ge (pc := 9) C (tgt := 16) dX1_has_9 (by decide) hf (fun hf => ?_) (fun hf => ?_)
    · refine g_sub [0] [] (by decide) rfl rfl rfl ?_
      exact H16  hf
    · refine g_iconst (pc := 12) C dX1_has_12 ?_
      refine g_goto (pc := 13) C (tgt := 17) dX1_has_13 (by decide) ?_
      exact g_zret (pc := 17) C hf E (by decide) rfl (fun _ => 0) [0] (by decide) rfl rfl (Nat.le_refl _) (Nat.le_refl _) dX1_has_17
def oX1_hasRoom (ca : Nat → ClassId) (aCd : Nat → Nat) (cd_begin : Nat → Int) (cd_acts : Int) (Ro : Int) : (Nat → Nat) → va_W := fun _ => [((aCd 0), .inr (1, [.ref (aCd 1), .ref (aCd 2), .ref (aCd 3), .int (zI cd_acts)])), ((aCd 3), .inl (ca 0, 61, .inl (zA cd_begin)))]
def oiX1_hasRoom (Ro : Int) : Option Value := (some (.int (zI Ro)))
set_option maxRecDepth 100000 in
theorem kX1_hasRoom (l : Launch) (D : va_G) (ca : Nat → ClassId) (aCd : Nat → Nat) (cd_begin : Nat → Int) (cd_acts : Int) (v1 : Int) (Ro : Int)
    (hf : fX1_hasRoom v1 cd_begin cd_acts = some Ro) : Zc l D ca yX1_hasRoom cX1_hasRoom 2 (some .boolean) { frames := 0, cells := 0, slots := 0, locals := 0 } [.ref (aCd 0), .int (zI v1)] [((aCd 0), .inr (1, [.ref (aCd 1), .ref (aCd 2), .ref (aCd 3), .int (zI cd_acts)])), ((aCd 3), .inl (ca 0, 61, .inl (zA cd_begin)))] (oiX1_hasRoom Ro) (oX1_hasRoom ca aCd cd_begin cd_acts Ro) := by
  refine ctr_of (lv := [(0, .ref (aCd 0)), (1, .int (zI v1))]) (by decide +kernel) (Nat.le_of_ble_eq_true rfl) rfl (fun Γ hl0 C E hnm => ?_)
  have H35 : fX1_hasRoom_35 = some Ro → Zd D Γ 0 0 [((aCd 0), .inr (1, [.ref (aCd 1), .ref (aCd 2), .ref (aCd 3), .int (zI cd_acts)])), ((aCd 3), .inl (ca 0, 61, .inl (zA cd_begin)))] 35 [] [] := by
    intro  hf
    unfold fX1_hasRoom_35 at hf
    refine g_iconst (pc := 35) C dX1_hasRoom_35 ?_
    exact g_zret (pc := 36) C hf E (by decide) rfl (fun _ => 0) [0, 1] (by decide) rfl rfl (Nat.le_refl _) (Nat.le_refl _) dX1_hasRoom_36
  unfold fX1_hasRoom at hf
  refine g_iload_n (pc := 0) C 1 dX1_hasRoom_0 rfl rfl ?_
  refine g_iconst (pc := 1) C dX1_hasRoom_1 ?_
  refine g_icmp_ltr (pc := 2) C (tgt := 35) dX1_hasRoom_2 (by decide) (by decide) hf (fun hf => ?_) (fun hf => ?_)
  · refine g_sub [0, 1] [] (by decide) rfl rfl rfl ?_
    exact H35  hf
  · refine g_aload_n (pc := 5) C 0 dX1_hasRoom_5 rfl rfl ?_
    refine g_get (pc := 6) C zf_X1_21 0 rfl rfl dX1_hasRoom_6 ?_
    refine g_bipush (pc := 9) C dX1_hasRoom_9 (by decide) ?_
    refine g_icmp_ger (pc := 11) C (tgt := 35) dX1_hasRoom_11 (by decide) (by decide) hf (fun hf => ?_) (fun hf => ?_)
    · refine g_sub [0, 1] [] (by decide) rfl rfl rfl ?_
      exact H35  hf
    · refine g_iload_n (pc := 14) C 1 dX1_hasRoom_14 rfl rfl ?_
      refine g_sipush (pc := 15) C dX1_hasRoom_15 (by decide) ?_
      refine g_aload_n (pc := 18) C 0 dX1_hasRoom_18 rfl rfl ?_
      refine g_get (pc := 19) C zf_X1_18 0 rfl rfl dX1_hasRoom_19 ?_
      refine g_aload_n (pc := 22) C 0 dX1_hasRoom_22 rfl rfl ?_
      refine g_get (pc := 23) C zf_X1_21 0 rfl rfl dX1_hasRoom_23 ?_
      refine g_iald (pc := 26) C (N := 61) 1 rfl rfl (Nat.le_of_ble_eq_true rfl) dX1_hasRoom_26 hf (fun hf => ?_)
      refine g_isub (pc := 27) C dX1_hasRoom_27 ?_
      refine g_icmp_gt (pc := 28) C (tgt := 35) dX1_hasRoom_28 (by decide) hf (fun hf => ?_) (fun hf => ?_)
      · refine g_sub [0, 1] [] (by decide) rfl rfl rfl ?_
        exact H35  hf
      · refine g_iconst (pc := 31) C dX1_hasRoom_31 ?_
        refine g_goto (pc := 32) C (tgt := 36) dX1_hasRoom_32 (by decide) ?_
        exact g_zret (pc := 36) C hf E (by decide) rfl (fun _ => 0) [0, 1] (by decide) rfl rfl (Nat.le_refl _) (Nat.le_refl _) dX1_hasRoom_36
def oX1_isRest (ca : Nat → ClassId) (aCd : Nat → Nat) (cd_kind : Nat → Int) (cd_acts : Int) (Ro : Int) : (Nat → Nat) → va_W := fun _ => [((aCd 0), .inr (1, [.ref (aCd 1), .ref (aCd 2), .ref (aCd 3), .int (zI cd_acts)])), ((aCd 1), .inl (ca 0, 60, .inl (zA cd_kind)))]
def oiX1_isRest (Ro : Int) : Option Value := (some (.int (zI Ro)))
set_option maxRecDepth 100000 in
theorem kX1_isRest (l : Launch) (D : va_G) (ca : Nat → ClassId) (aCd : Nat → Nat) (cd_kind : Nat → Int) (cd_acts : Int) (v1 : Int) (v2 : Int) (Ro : Int)
    (hf : fX1_isRest v1 v2 cd_kind cd_acts = some Ro) : Zc l D ca yX1_isRest cX1_isRest 3 (some .boolean) { frames := 1, cells := 0, slots := 0, locals := 21 } [.ref (aCd 0), .int (zI v1), .int (zI v2)] [((aCd 0), .inr (1, [.ref (aCd 1), .ref (aCd 2), .ref (aCd 3), .int (zI cd_acts)])), ((aCd 1), .inl (ca 0, 60, .inl (zA cd_kind)))] (oiX1_isRest Ro) (oX1_isRest ca aCd cd_kind cd_acts Ro) := by
  refine ctr_of (lv := [(0, .ref (aCd 0)), (1, .int (zI v1)), (2, .int (zI v2))]) (by decide +kernel) (Nat.le_of_ble_eq_true rfl) rfl (fun Γ hl0 C E hnm => ?_)
  have H32 : fX1_isRest_32 = some Ro → Zd D Γ 0 0 [((aCd 0), .inr (1, [.ref (aCd 1), .ref (aCd 2), .ref (aCd 3), .int (zI cd_acts)])), ((aCd 1), .inl (ca 0, 60, .inl (zA cd_kind)))] 32 [] [] := by
    intro  hf
    unfold fX1_isRest_32 at hf
    refine g_iconst (pc := 32) C dX1_isRest_32 ?_
    refine g_goto (pc := 33) C (tgt := 37) dX1_isRest_33 (by decide) ?_
    exact g_zret (pc := 37) C hf E (by decide) rfl (fun _ => 0) [0, 1] (by decide) rfl rfl (Nat.le_refl _) (Nat.le_refl _) dX1_isRest_37
  have H36 : fX1_isRest_36 = some Ro → Zd D Γ 0 0 [((aCd 0), .inr (1, [.ref (aCd 1), .ref (aCd 2), .ref (aCd 3), .int (zI cd_acts)])), ((aCd 1), .inl (ca 0, 60, .inl (zA cd_kind)))] 36 [] [] := by
    intro  hf
    unfold fX1_isRest_36 at hf
    refine g_iconst (pc := 36) C dX1_isRest_36 ?_
    exact g_zret (pc := 37) C hf E (by decide) rfl (fun _ => 0) [0, 1] (by decide) rfl rfl (Nat.le_refl _) (Nat.le_refl _) dX1_isRest_37
  unfold fX1_isRest at hf
  refine g_aload_n (pc := 0) C 0 dX1_isRest_0 rfl rfl ?_
  refine g_iload_n (pc := 1) C 1 dX1_isRest_1 rfl rfl ?_
  obtain ⟨r_2, hc_2, hf⟩ := Option.bind_eq_some_iff.mp hf
  refine g_callV (pc := 2) C hl0 (wr := [((aCd 1), .inl (ca 0, 60, .inl (zA cd_kind)))]) (k' := 0) (n' := 0) (ws' := fun _ => [((aCd 1), .inl (ca 0, 60, .inl (zA cd_kind))), ((aCd 0), .inr (1, [.ref (aCd 1), .ref (aCd 2), .ref (aCd 3), .int (zI cd_acts)]))]) (st' := [.int (zI r_2)]) (kX1_has l D ca aCd cd_acts v1 r_2 hc_2) wml_RX1_33 wim_X1_has wse_X1_has win_RX1 wco_X1_has (nA := 1) rfl (by decide +kernel)  ⟨(Nat.le_of_ble_eq_true rfl), (Nat.le_of_ble_eq_true rfl)⟩ (Nat.le_refl _) (Nat.le_refl _) rfl (Nat.le_of_ble_eq_true rfl) dX1_isRest_2 0 1 rfl rfl rfl [0] [1] rfl rfl rfl (by decide) (by decide) (by decide) rfl rfl (fun _ => rfl) rfl (fun _ => ?_)
  refine g_if_eq (pc := 5) C (tgt := 36) dX1_isRest_5 (by decide) hf (fun hf => ?_) (fun hf => ?_)
  · refine g_sub [1, 0] [] (by decide) rfl rfl rfl ?_
    exact H36  hf
  · refine g_aload_n (pc := 8) C 0 dX1_isRest_8 rfl rfl ?_
    refine g_get (pc := 9) C zf_X1_9 1 rfl rfl dX1_isRest_9 ?_
    refine g_iload_n (pc := 12) C 1 dX1_isRest_12 rfl rfl ?_
    refine g_iald (pc := 13) C (N := 60) 0 rfl rfl (Nat.le_of_ble_eq_true rfl) dX1_isRest_13 hf (fun hf => ?_)
    refine g_iconst (pc := 14) C dX1_isRest_14 ?_
    refine g_icmp_eqr (pc := 15) C (tgt := 32) dX1_isRest_15 (by decide) (by decide) hf (fun hf => ?_) (fun hf => ?_)
    · refine g_sub [1, 0] [] (by decide) rfl rfl rfl ?_
      exact H32  hf
    · refine g_aload_n (pc := 18) C 0 dX1_isRest_18 rfl rfl ?_
      refine g_get (pc := 19) C zf_X1_9 1 rfl rfl dX1_isRest_19 ?_
      refine g_iload_n (pc := 22) C 1 dX1_isRest_22 rfl rfl ?_
      refine g_iald (pc := 23) C (N := 60) 0 rfl rfl (Nat.le_of_ble_eq_true rfl) dX1_isRest_23 hf (fun hf => ?_)
      refine g_iconst (pc := 24) C dX1_isRest_24 ?_
      refine g_icmp_ner (pc := 25) C (tgt := 36) dX1_isRest_25 (by decide) (by decide) hf (fun hf => ?_) (fun hf => ?_)
      · refine g_sub [1, 0] [] (by decide) rfl rfl rfl ?_
        exact H36  hf
      · refine g_iload_n (pc := 28) C 2 dX1_isRest_28 rfl rfl ?_
        refine g_if_ne (pc := 29) C (tgt := 36) dX1_isRest_29 (by decide) hf (fun hf => ?_) (fun hf => ?_)
        · refine g_sub [1, 0] [] (by decide) rfl rfl rfl ?_
          exact H36  hf
        · refine g_sub [1, 0] [] (by decide) rfl rfl rfl ?_
          exact H32  hf
def oX1_kindRead (ca : Nat → ClassId) (aCd : Nat → Nat) (cd_kind : Nat → Int) (cd_acts : Int) (Ro : Int) : (Nat → Nat) → va_W := fun _ => [((aCd 0), .inr (1, [.ref (aCd 1), .ref (aCd 2), .ref (aCd 3), .int (zI cd_acts)])), ((aCd 1), .inl (ca 0, 60, .inl (zA cd_kind)))]
def oiX1_kindRead (Ro : Int) : Option Value := (some (.int (zI Ro)))
set_option maxRecDepth 100000 in
theorem kX1_kindRead (l : Launch) (D : va_G) (ca : Nat → ClassId) (aCd : Nat → Nat) (cd_kind : Nat → Int) (cd_acts : Int) (v1 : Int) (v2 : Int) (Ro : Int)
    (hf : fX1_kindRead v1 v2 cd_kind cd_acts = some Ro) : Zc l D ca yX1_kindRead cX1_kindRead 3 (some .int) { frames := 2, cells := 0, slots := 0, locals := 43 } [.ref (aCd 0), .int (zI v1), .int (zI v2)] [((aCd 0), .inr (1, [.ref (aCd 1), .ref (aCd 2), .ref (aCd 3), .int (zI cd_acts)])), ((aCd 1), .inl (ca 0, 60, .inl (zA cd_kind)))] (oiX1_kindRead Ro) (oX1_kindRead ca aCd cd_kind cd_acts Ro) := by
  refine ctr_of (lv := [(0, .ref (aCd 0)), (1, .int (zI v1)), (2, .int (zI v2))]) (by decide +kernel) (Nat.le_of_ble_eq_true rfl) rfl (fun Γ hl0 C E hnm => ?_)
  have H68 : fX1_kindRead_68 = some Ro → Zd D Γ 0 0 [((aCd 0), .inr (1, [.ref (aCd 1), .ref (aCd 2), .ref (aCd 3), .int (zI cd_acts)])), ((aCd 1), .inl (ca 0, 60, .inl (zA cd_kind)))] 68 [] [] := by
    intro  hf
    unfold fX1_kindRead_68 at hf
    refine g_iconst (pc := 68) C dX1_kindRead_68 ?_
    exact g_iret (pc := 69) C hf E rfl (fun _ => 0) [0, 1] (by decide) rfl rfl (Nat.le_refl _) (Nat.le_refl _) dX1_kindRead_69
  unfold fX1_kindRead at hf
  refine g_aload_n (pc := 0) C 0 dX1_kindRead_0 rfl rfl ?_
  refine g_get (pc := 1) C zf_X1_9 0 rfl rfl dX1_kindRead_1 ?_
  refine g_iload_n (pc := 4) C 1 dX1_kindRead_4 rfl rfl ?_
  refine g_iald (pc := 5) C (N := 60) 1 rfl rfl (Nat.le_of_ble_eq_true rfl) dX1_kindRead_5 hf (fun hf => ?_)
  obtain ⟨hx_6, hf⟩ := zck hf
  by_cases hc_6_0 : (cd_kind v1.toNat) = 3
  · rw [if_pos hc_6_0] at hf
    refine g_look (pc := 6) C (tgt := 42) (off := 36) dX1_kindRead_6 hx_6 (by decide) (by rw [hc_6_0]; rfl) (by decide) ?_
    refine g_aload_n (pc := 42) C 0 dX1_kindRead_42 rfl rfl ?_
    refine g_iload_n (pc := 43) C 1 dX1_kindRead_43 rfl rfl ?_
    refine g_iconst (pc := 44) C dX1_kindRead_44 ?_
    refine g_isub (pc := 45) C dX1_kindRead_45 ?_
    refine g_iload_n (pc := 46) C 2 dX1_kindRead_46 rfl rfl ?_
    obtain ⟨r_47, hc_47, hf⟩ := Option.bind_eq_some_iff.mp hf
    refine g_callV (pc := 47) C hl0 (wr := []) (k' := 0) (n' := 0) (ws' := fun _ => [((aCd 0), .inr (1, [.ref (aCd 1), .ref (aCd 2), .ref (aCd 3), .int (zI cd_acts)])), ((aCd 1), .inl (ca 0, 60, .inl (zA cd_kind)))]) (st' := [.int (zI r_47)]) (kX1_isRest l D ca aCd cd_kind cd_acts (v1 - 1) v2 r_47 hc_47) wml_RX1_29 wim_X1_isRest wse_X1_isRest win_RX1 wco_X1_isRest (nA := 2) rfl (by decide +kernel)  ⟨(Nat.le_of_ble_eq_true rfl), (Nat.le_of_ble_eq_true rfl)⟩ (Nat.le_refl _) (Nat.le_refl _) rfl (Nat.le_of_ble_eq_true rfl) dX1_kindRead_47 0 1 rfl rfl rfl [0, 1] [] rfl rfl rfl (by decide) (by decide) (by decide) rfl rfl (fun _ => rfl) rfl (fun _ => ?_)
    refine g_if_eq (pc := 50) C (tgt := 68) dX1_kindRead_50 (by decide) hf (fun hf => ?_) (fun hf => ?_)
    · refine g_sub [0, 1] [] (by decide) rfl rfl rfl ?_
      exact H68  hf
    · refine g_aload_n (pc := 53) C 0 dX1_kindRead_53 rfl rfl ?_
      refine g_iload_n (pc := 54) C 1 dX1_kindRead_54 rfl rfl ?_
      refine g_iconst (pc := 55) C dX1_kindRead_55 ?_
      refine g_iadd (pc := 56) C dX1_kindRead_56 ?_
      refine g_iload_n (pc := 57) C 2 dX1_kindRead_57 rfl rfl ?_
      obtain ⟨r_58, hc_58, hf⟩ := Option.bind_eq_some_iff.mp hf
      refine g_callV (pc := 58) C hl0 (wr := []) (k' := 0) (n' := 0) (ws' := fun _ => [((aCd 0), .inr (1, [.ref (aCd 1), .ref (aCd 2), .ref (aCd 3), .int (zI cd_acts)])), ((aCd 1), .inl (ca 0, 60, .inl (zA cd_kind)))]) (st' := [.int (zI r_58)]) (kX1_isRest l D ca aCd cd_kind cd_acts (v1 + 1) v2 r_58 hc_58) wml_RX1_29 wim_X1_isRest wse_X1_isRest win_RX1 wco_X1_isRest (nA := 2) rfl (by decide +kernel)  ⟨(Nat.le_of_ble_eq_true rfl), (Nat.le_of_ble_eq_true rfl)⟩ (Nat.le_refl _) (Nat.le_refl _) rfl (Nat.le_of_ble_eq_true rfl) dX1_kindRead_58 0 1 rfl rfl rfl [0, 1] [] rfl rfl rfl (by decide) (by decide) (by decide) rfl rfl (fun _ => rfl) rfl (fun _ => ?_)
      refine g_if_eq (pc := 61) C (tgt := 68) dX1_kindRead_61 (by decide) hf (fun hf => ?_) (fun hf => ?_)
      · refine g_sub [0, 1] [] (by decide) rfl rfl rfl ?_
        exact H68  hf
      · refine g_iconst (pc := 64) C dX1_kindRead_64 ?_
        refine g_goto (pc := 65) C (tgt := 69) dX1_kindRead_65 (by decide) ?_
        exact g_iret (pc := 69) C hf E rfl (fun _ => 0) [0, 1] (by decide) rfl rfl (Nat.le_refl _) (Nat.le_refl _) dX1_kindRead_69
  · rw [if_neg hc_6_0] at hf
    by_cases hc_6_1 : (cd_kind v1.toNat) = 4
    · rw [if_pos hc_6_1] at hf
      refine g_look (pc := 6) C (tgt := 32) (off := 26) dX1_kindRead_6 hx_6 (by decide) (by rw [hc_6_1]; rfl) (by decide) ?_
      refine g_iload_n (pc := 32) C 2 dX1_kindRead_32 rfl rfl ?_
      refine g_if_eq (pc := 33) C (tgt := 40) dX1_kindRead_33 (by decide) hf (fun hf => ?_) (fun hf => ?_)
      · refine g_iconst (pc := 40) C dX1_kindRead_40 ?_
        exact g_iret (pc := 41) C hf E rfl (fun _ => 0) [0, 1] (by decide) rfl rfl (Nat.le_refl _) (Nat.le_refl _) dX1_kindRead_41
      · refine g_iconst (pc := 36) C dX1_kindRead_36 ?_
        refine g_goto (pc := 37) C (tgt := 41) dX1_kindRead_37 (by decide) ?_
        exact g_iret (pc := 41) C hf E rfl (fun _ => 0) [0, 1] (by decide) rfl rfl (Nat.le_refl _) (Nat.le_refl _) dX1_kindRead_41
    · rw [if_neg hc_6_1] at hf
      refine g_look (pc := 6) C (tgt := 70) (off := 64) dX1_kindRead_6 hx_6 (by decide) (by simp [Op.lookupswitch.offset_cons, hc_6_0, hc_6_1, eq_comm]; try rfl) (by decide) ?_
      refine g_aload_n (pc := 70) C 0 dX1_kindRead_70 rfl rfl ?_
      refine g_get (pc := 71) C zf_X1_9 0 rfl rfl dX1_kindRead_71 ?_
      refine g_iload_n (pc := 74) C 1 dX1_kindRead_74 rfl rfl ?_
      refine g_iald (pc := 75) C (N := 60) 1 rfl rfl (Nat.le_of_ble_eq_true rfl) dX1_kindRead_75 hf (fun hf => ?_)
      exact g_iret (pc := 76) C hf E rfl (fun _ => 0) [0, 1] (by decide) rfl rfl (Nat.le_refl _) (Nat.le_refl _) dX1_kindRead_76
def oX0_isBehind (ca : Nat → ClassId) (aBr : Nat → Nat) (br_minute : Nat → Int) (br_rule : Nat → Int) (br_size : Int) (Ro : Int) : (Nat → Nat) → va_W := fun _ => [((aBr 0), .inr (0, [.ref (aBr 1), .ref (aBr 2), .ref (aBr 3), .int (zI br_size)])), ((aBr 1), .inl (ca 0, 185, .inl (zA br_minute))), ((aBr 2), .inl (ca 0, 185, .inl (zA br_rule)))]
def oiX0_isBehind (Ro : Int) : Option Value := (some (.int (zI Ro)))
set_option maxRecDepth 100000 in
theorem kX0_isBehind (l : Launch) (D : va_G) (ca : Nat → ClassId) (aBr : Nat → Nat) (br_minute : Nat → Int) (br_rule : Nat → Int) (br_size : Int) (v1 : Int) (v2 : Int) (v3 : Int) (Ro : Int)
    (hf : fX0_isBehind v1 v2 v3 br_minute br_rule = some Ro) : Zc l D ca yX0_isBehind cX0_isBehind 4 (some .boolean) { frames := 0, cells := 0, slots := 0, locals := 0 } [.ref (aBr 0), .int (zI v1), .int (zI v2), .int (zI v3)] [((aBr 0), .inr (0, [.ref (aBr 1), .ref (aBr 2), .ref (aBr 3), .int (zI br_size)])), ((aBr 1), .inl (ca 0, 185, .inl (zA br_minute))), ((aBr 2), .inl (ca 0, 185, .inl (zA br_rule)))] (oiX0_isBehind Ro) (oX0_isBehind ca aBr br_minute br_rule br_size Ro) := by
  refine ctr_of (lv := [(0, .ref (aBr 0)), (1, .int (zI v1)), (2, .int (zI v2)), (3, .int (zI v3))]) (by decide +kernel) (Nat.le_of_ble_eq_true rfl) rfl (fun Γ hl0 C E hnm => ?_)
  have H30 : fX0_isBehind_30 = some Ro → Zd D Γ 0 0 [((aBr 0), .inr (0, [.ref (aBr 1), .ref (aBr 2), .ref (aBr 3), .int (zI br_size)])), ((aBr 1), .inl (ca 0, 185, .inl (zA br_minute))), ((aBr 2), .inl (ca 0, 185, .inl (zA br_rule)))] 30 [] [] := by
    intro  hf
    unfold fX0_isBehind_30 at hf
    refine g_iconst (pc := 30) C dX0_isBehind_30 ?_
    refine g_goto (pc := 31) C (tgt := 35) dX0_isBehind_31 (by decide) ?_
    exact g_zret (pc := 35) C hf E (by decide) rfl (fun _ => 0) [0, 1, 2] (by decide) rfl rfl (Nat.le_refl _) (Nat.le_refl _) dX0_isBehind_35
  have H34 : fX0_isBehind_34 = some Ro → Zd D Γ 0 0 [((aBr 0), .inr (0, [.ref (aBr 1), .ref (aBr 2), .ref (aBr 3), .int (zI br_size)])), ((aBr 1), .inl (ca 0, 185, .inl (zA br_minute))), ((aBr 2), .inl (ca 0, 185, .inl (zA br_rule)))] 34 [] [] := by
    intro  hf
    unfold fX0_isBehind_34 at hf
    refine g_iconst (pc := 34) C dX0_isBehind_34 ?_
    exact g_zret (pc := 35) C hf E (by decide) rfl (fun _ => 0) [0, 1, 2] (by decide) rfl rfl (Nat.le_refl _) (Nat.le_refl _) dX0_isBehind_35
  unfold fX0_isBehind at hf
  refine g_aload_n (pc := 0) C 0 dX0_isBehind_0 rfl rfl ?_
  refine g_get (pc := 1) C zf_X0_11 0 rfl rfl dX0_isBehind_1 ?_
  refine g_iload_n (pc := 4) C 1 dX0_isBehind_4 rfl rfl ?_
  refine g_iald (pc := 5) C (N := 185) 1 rfl rfl (Nat.le_of_ble_eq_true rfl) dX0_isBehind_5 hf (fun hf => ?_)
  refine g_iload_n (pc := 6) C 2 dX0_isBehind_6 rfl rfl ?_
  refine g_icmp_gt (pc := 7) C (tgt := 30) dX0_isBehind_7 (by decide) hf (fun hf => ?_) (fun hf => ?_)
  · refine g_sub [0, 1, 2] [] (by decide) rfl rfl rfl ?_
    exact H30  hf
  · refine g_aload_n (pc := 10) C 0 dX0_isBehind_10 rfl rfl ?_
    refine g_get (pc := 11) C zf_X0_11 0 rfl rfl dX0_isBehind_11 ?_
    refine g_iload_n (pc := 14) C 1 dX0_isBehind_14 rfl rfl ?_
    refine g_iald (pc := 15) C (N := 185) 1 rfl rfl (Nat.le_of_ble_eq_true rfl) dX0_isBehind_15 hf (fun hf => ?_)
    refine g_iload_n (pc := 16) C 2 dX0_isBehind_16 rfl rfl ?_
    refine g_icmp_ne (pc := 17) C (tgt := 34) dX0_isBehind_17 (by decide) hf (fun hf => ?_) (fun hf => ?_)
    · refine g_sub [0, 1, 2] [] (by decide) rfl rfl rfl ?_
      exact H34  hf
    · refine g_aload_n (pc := 20) C 0 dX0_isBehind_20 rfl rfl ?_
      refine g_get (pc := 21) C zf_X0_15 0 rfl rfl dX0_isBehind_21 ?_
      refine g_iload_n (pc := 24) C 1 dX0_isBehind_24 rfl rfl ?_
      refine g_iald (pc := 25) C (N := 185) 2 rfl rfl (Nat.le_of_ble_eq_true rfl) dX0_isBehind_25 hf (fun hf => ?_)
      refine g_iload_n (pc := 26) C 3 dX0_isBehind_26 rfl rfl ?_
      refine g_icmp_le (pc := 27) C (tgt := 34) dX0_isBehind_27 (by decide) hf (fun hf => ?_) (fun hf => ?_)
      · refine g_sub [0, 1, 2] [] (by decide) rfl rfl rfl ?_
        exact H34  hf
      · refine g_sub [0, 1, 2] [] (by decide) rfl rfl rfl ?_
        exact H30  hf
def oX0_insert (ca : Nat → ClassId) (aBr : Nat → Nat)  (Ro : (Nat → Int) × (Nat → Int) × (Nat → Int) × Int) : (Nat → Nat) → va_W := fun _ => [((aBr 0), .inr (0, [.ref (aBr 1), .ref (aBr 2), .ref (aBr 3), .int (zI (Ro.2.2.2))])), ((aBr 1), .inl (ca 0, 185, .inl (zA (Ro.1)))), ((aBr 2), .inl (ca 0, 185, .inl (zA (Ro.2.1)))), ((aBr 3), .inl (ca 0, 185, .inl (zA (Ro.2.2.1))))]
def oiX0_insert (Ro : (Nat → Int) × (Nat → Int) × (Nat → Int) × Int) : Option Value := none
set_option maxRecDepth 100000 in
theorem kX0_insert (l : Launch) (D : va_G) (ca : Nat → ClassId) (aBr : Nat → Nat) (br_minute : Nat → Int) (br_rule : Nat → Int) (br_much : Nat → Int) (br_size : Int) (v1 : Int) (v2 : Int) (v3 : Int) (Ro : (Nat → Int) × (Nat → Int) × (Nat → Int) × Int)
    (hf : fX0_insert v1 v2 v3 br_minute br_rule br_much br_size = some Ro) : Zc l D ca yX0_insert cX0_insert 5 none { frames := 1, cells := 0, slots := 0, locals := 23 } [.ref (aBr 0), .int (zI v1), .int (zI v2), .int (zI v3)] [((aBr 0), .inr (0, [.ref (aBr 1), .ref (aBr 2), .ref (aBr 3), .int (zI br_size)])), ((aBr 1), .inl (ca 0, 185, .inl (zA br_minute))), ((aBr 2), .inl (ca 0, 185, .inl (zA br_rule))), ((aBr 3), .inl (ca 0, 185, .inl (zA br_much)))] (oiX0_insert Ro) (oX0_insert ca aBr Ro) := by
  refine ctr_of (lv := [(0, .ref (aBr 0)), (1, .int (zI v1)), (2, .int (zI v2)), (3, .int (zI v3))]) (by decide +kernel) (Nat.le_of_ble_eq_true rfl) rfl (fun Γ hl0 C E hnm => ?_)
  have H89 : ∀ (v4 : Int) (br_minute : Nat → Int) (br_rule : Nat → Int) (br_much : Nat → Int) (br_size : Int), fX0_insert_89 v1 v2 v3 v4 br_minute br_rule br_much br_size = some Ro → Zd D Γ 0 0 [((aBr 0), .inr (0, [.ref (aBr 1), .ref (aBr 2), .ref (aBr 3), .int (zI br_size)])), ((aBr 1), .inl (ca 0, 185, .inl (zA br_minute))), ((aBr 2), .inl (ca 0, 185, .inl (zA br_rule))), ((aBr 3), .inl (ca 0, 185, .inl (zA br_much)))] 89 [(0, .ref (aBr 0)), (1, .int (zI v1)), (2, .int (zI v2)), (3, .int (zI v3)), (4, .int (zI v4))] [] := by
    intro v4 br_minute br_rule br_much br_size hf
    unfold fX0_insert_89 at hf
    refine g_aload_n (pc := 89) C 0 dX0_insert_89 rfl rfl ?_
    refine g_get (pc := 90) C zf_X0_11 0 rfl rfl dX0_insert_90 ?_
    refine g_iload (pc := 93) C 4 dX0_insert_93 rfl ?_
    refine g_iload_n (pc := 95) C 1 dX0_insert_95 rfl rfl ?_
    refine g_iast (pc := 96) C (N := 185) (ws' := [((aBr 0), .inr (0, [.ref (aBr 1), .ref (aBr 2), .ref (aBr 3), .int (zI br_size)])), ((aBr 1), .inl (ca 0, 185, .inl (zA (zU br_minute v4.toNat v1)))), ((aBr 2), .inl (ca 0, 185, .inl (zA br_rule))), ((aBr 3), .inl (ca 0, 185, .inl (zA br_much)))]) 1 rfl rfl (Nat.le_of_ble_eq_true rfl) rfl dX0_insert_96 hf (fun hf => ?_)
    refine g_aload_n (pc := 97) C 0 dX0_insert_97 rfl rfl ?_
    refine g_get (pc := 98) C zf_X0_15 0 rfl rfl dX0_insert_98 ?_
    refine g_iload (pc := 101) C 4 dX0_insert_101 rfl ?_
    refine g_iload_n (pc := 103) C 2 dX0_insert_103 rfl rfl ?_
    refine g_iast (pc := 104) C (N := 185) (ws' := [((aBr 0), .inr (0, [.ref (aBr 1), .ref (aBr 2), .ref (aBr 3), .int (zI br_size)])), ((aBr 1), .inl (ca 0, 185, .inl (zA (zU br_minute v4.toNat v1)))), ((aBr 2), .inl (ca 0, 185, .inl (zA (zU br_rule v4.toNat v2)))), ((aBr 3), .inl (ca 0, 185, .inl (zA br_much)))]) 2 rfl rfl (Nat.le_of_ble_eq_true rfl) rfl dX0_insert_104 hf (fun hf => ?_)
    refine g_aload_n (pc := 105) C 0 dX0_insert_105 rfl rfl ?_
    refine g_get (pc := 106) C zf_X0_18 0 rfl rfl dX0_insert_106 ?_
    refine g_iload (pc := 109) C 4 dX0_insert_109 rfl ?_
    refine g_iload_n (pc := 111) C 3 dX0_insert_111 rfl rfl ?_
    refine g_iast (pc := 112) C (N := 185) (ws' := [((aBr 0), .inr (0, [.ref (aBr 1), .ref (aBr 2), .ref (aBr 3), .int (zI br_size)])), ((aBr 1), .inl (ca 0, 185, .inl (zA (zU br_minute v4.toNat v1)))), ((aBr 2), .inl (ca 0, 185, .inl (zA (zU br_rule v4.toNat v2)))), ((aBr 3), .inl (ca 0, 185, .inl (zA (zU br_much v4.toNat v3))))]) 3 rfl rfl (Nat.le_of_ble_eq_true rfl) rfl dX0_insert_112 hf (fun hf => ?_)
    refine g_aload_n (pc := 113) C 0 dX0_insert_113 rfl rfl ?_
    refine g_dup (pc := 114) C dX0_insert_114 rfl ?_
    refine g_get (pc := 115) C zf_X0_21 0 rfl rfl dX0_insert_115 ?_
    refine g_iconst (pc := 118) C dX0_insert_118 ?_
    refine g_iadd (pc := 119) C dX0_insert_119 ?_
    refine g_put (pc := 120) C zf_X0_21 tyX0 tyX0_ok nmX0 (v := .int (zI (br_size + 1))) (ws' := [((aBr 0), .inr (0, [.ref (aBr 1), .ref (aBr 2), .ref (aBr 3), .int (zI (br_size + 1))])), ((aBr 1), .inl (ca 0, 185, .inl (zA (zU br_minute v4.toNat v1)))), ((aBr 2), .inl (ca 0, 185, .inl (zA (zU br_rule v4.toNat v2)))), ((aBr 3), .inl (ca 0, 185, .inl (zA (zU br_much v4.toNat v3))))]) 0 rfl rfl rfl rfl rfl (Nat.le_of_ble_eq_true rfl) rfl rfl dX0_insert_120 ?_
    exact g_vret (pc := 123) C hf E rfl (fun _ => 0) [0, 1, 2, 3] (by decide) rfl rfl (Nat.le_refl _) (Nat.le_refl _) dX0_insert_123
  have H17 : ∀ (br_size : Int) (n17 : Nat) (v4 : Int) (br_minute : Nat → Int) (br_rule : Nat → Int) (br_much : Nat → Int), zlp (fX0_insert_17 v1 v2 v3 br_size) n17 (v4, br_minute, br_rule, br_much) = some Ro → Zd D Γ 0 0 [((aBr 0), .inr (0, [.ref (aBr 1), .ref (aBr 2), .ref (aBr 3), .int (zI br_size)])), ((aBr 1), .inl (ca 0, 185, .inl (zA br_minute))), ((aBr 2), .inl (ca 0, 185, .inl (zA br_rule))), ((aBr 3), .inl (ca 0, 185, .inl (zA br_much)))] 17 [(0, .ref (aBr 0)), (1, .int (zI v1)), (2, .int (zI v2)), (3, .int (zI v3)), (4, .int (zI v4))] [] := by
    intro br_size
    intro n17
    induction n17 with
    | zero =>
      intro v4 br_minute br_rule br_much hf
      exact zno hf
    | succ n17 ih17 =>
      intro v4 br_minute br_rule br_much hf
      rw [zlp_s] at hf
      unfold fX0_insert_17 at hf
      dsimp only at hf
      refine g_iload (pc := 17) C 4 dX0_insert_17 rfl ?_
      refine g_if_le (pc := 19) C (tgt := 89) dX0_insert_19 (by decide) hf (fun hf => ?_) (fun hf => ?_)
      · exact H89 _ _ _ _ _ hf
      · refine g_aload_n (pc := 22) C 0 dX0_insert_22 rfl rfl ?_
        refine g_iload (pc := 23) C 4 dX0_insert_23 rfl ?_
        refine g_iconst (pc := 25) C dX0_insert_25 ?_
        refine g_isub (pc := 26) C dX0_insert_26 ?_
        refine g_iload_n (pc := 27) C 1 dX0_insert_27 rfl rfl ?_
        refine g_iload_n (pc := 28) C 2 dX0_insert_28 rfl rfl ?_
        obtain ⟨r_29, hc_29, hf⟩ := Option.bind_eq_some_iff.mp hf
        refine g_callV (pc := 29) C hl0 (wr := [((aBr 3), .inl (ca 0, 185, .inl (zA br_much)))]) (k' := 0) (n' := 0) (ws' := fun _ => [((aBr 3), .inl (ca 0, 185, .inl (zA br_much))), ((aBr 0), .inr (0, [.ref (aBr 1), .ref (aBr 2), .ref (aBr 3), .int (zI br_size)])), ((aBr 1), .inl (ca 0, 185, .inl (zA br_minute))), ((aBr 2), .inl (ca 0, 185, .inl (zA br_rule)))]) (st' := [.int (zI r_29)]) (kX0_isBehind l D ca aBr br_minute br_rule br_size (v4 - 1) v1 v2 r_29 hc_29) wml_RX0_25 wim_X0_isBehind wse_X0_isBehind win_RX0 wco_X0_isBehind (nA := 3) rfl (by decide +kernel)  ⟨(Nat.le_of_ble_eq_true rfl), (Nat.le_of_ble_eq_true rfl)⟩ (Nat.le_refl _) (Nat.le_refl _) rfl (Nat.le_of_ble_eq_true rfl) dX0_insert_29 0 0 rfl rfl rfl [0, 1, 2] [3] rfl rfl rfl (by decide) (by decide) (by decide) rfl rfl (fun _ => rfl) rfl (fun _ => ?_)
        refine g_if_eq (pc := 32) C (tgt := 89) dX0_insert_32 (by decide) hf (fun hf => ?_) (fun hf => ?_)
        · refine g_sub [1, 2, 3, 0] [0, 1, 2, 3, 4] (by decide) rfl rfl rfl ?_
          exact H89 _ _ _ _ _ hf
        · refine g_aload_n (pc := 35) C 0 dX0_insert_35 rfl rfl ?_
          refine g_get (pc := 36) C zf_X0_11 1 rfl rfl dX0_insert_36 ?_
          refine g_iload (pc := 39) C 4 dX0_insert_39 rfl ?_
          refine g_aload_n (pc := 41) C 0 dX0_insert_41 rfl rfl ?_
          refine g_get (pc := 42) C zf_X0_11 1 rfl rfl dX0_insert_42 ?_
          refine g_iload (pc := 45) C 4 dX0_insert_45 rfl ?_
          refine g_iconst (pc := 47) C dX0_insert_47 ?_
          refine g_isub (pc := 48) C dX0_insert_48 ?_
          refine g_iald (pc := 49) C (N := 185) 2 rfl rfl (Nat.le_of_ble_eq_true rfl) dX0_insert_49 hf (fun hf => ?_)
          refine g_iast (pc := 50) C (N := 185) (ws' := [((aBr 3), .inl (ca 0, 185, .inl (zA br_much))), ((aBr 0), .inr (0, [.ref (aBr 1), .ref (aBr 2), .ref (aBr 3), .int (zI br_size)])), ((aBr 1), .inl (ca 0, 185, .inl (zA (zU br_minute v4.toNat (br_minute (v4 - 1).toNat))))), ((aBr 2), .inl (ca 0, 185, .inl (zA br_rule)))]) 2 rfl rfl (Nat.le_of_ble_eq_true rfl) rfl dX0_insert_50 hf (fun hf => ?_)
          refine g_aload_n (pc := 51) C 0 dX0_insert_51 rfl rfl ?_
          refine g_get (pc := 52) C zf_X0_15 1 rfl rfl dX0_insert_52 ?_
          refine g_iload (pc := 55) C 4 dX0_insert_55 rfl ?_
          refine g_aload_n (pc := 57) C 0 dX0_insert_57 rfl rfl ?_
          refine g_get (pc := 58) C zf_X0_15 1 rfl rfl dX0_insert_58 ?_
          refine g_iload (pc := 61) C 4 dX0_insert_61 rfl ?_
          refine g_iconst (pc := 63) C dX0_insert_63 ?_
          refine g_isub (pc := 64) C dX0_insert_64 ?_
          refine g_iald (pc := 65) C (N := 185) 3 rfl rfl (Nat.le_of_ble_eq_true rfl) dX0_insert_65 hf (fun hf => ?_)
          refine g_iast (pc := 66) C (N := 185) (ws' := [((aBr 3), .inl (ca 0, 185, .inl (zA br_much))), ((aBr 0), .inr (0, [.ref (aBr 1), .ref (aBr 2), .ref (aBr 3), .int (zI br_size)])), ((aBr 1), .inl (ca 0, 185, .inl (zA (zU br_minute v4.toNat (br_minute (v4 - 1).toNat))))), ((aBr 2), .inl (ca 0, 185, .inl (zA (zU br_rule v4.toNat (br_rule (v4 - 1).toNat)))))]) 3 rfl rfl (Nat.le_of_ble_eq_true rfl) rfl dX0_insert_66 hf (fun hf => ?_)
          refine g_aload_n (pc := 67) C 0 dX0_insert_67 rfl rfl ?_
          refine g_get (pc := 68) C zf_X0_18 1 rfl rfl dX0_insert_68 ?_
          refine g_iload (pc := 71) C 4 dX0_insert_71 rfl ?_
          refine g_aload_n (pc := 73) C 0 dX0_insert_73 rfl rfl ?_
          refine g_get (pc := 74) C zf_X0_18 1 rfl rfl dX0_insert_74 ?_
          refine g_iload (pc := 77) C 4 dX0_insert_77 rfl ?_
          refine g_iconst (pc := 79) C dX0_insert_79 ?_
          refine g_isub (pc := 80) C dX0_insert_80 ?_
          refine g_iald (pc := 81) C (N := 185) 0 rfl rfl (Nat.le_of_ble_eq_true rfl) dX0_insert_81 hf (fun hf => ?_)
          refine g_iast (pc := 82) C (N := 185) (ws' := [((aBr 3), .inl (ca 0, 185, .inl (zA (zU br_much v4.toNat (br_much (v4 - 1).toNat))))), ((aBr 0), .inr (0, [.ref (aBr 1), .ref (aBr 2), .ref (aBr 3), .int (zI br_size)])), ((aBr 1), .inl (ca 0, 185, .inl (zA (zU br_minute v4.toNat (br_minute (v4 - 1).toNat))))), ((aBr 2), .inl (ca 0, 185, .inl (zA (zU br_rule v4.toNat (br_rule (v4 - 1).toNat)))))]) 0 rfl rfl (Nat.le_of_ble_eq_true rfl) rfl dX0_insert_82 hf (fun hf => ?_)
          refine g_iinc (pc := 83) C 4 (lv' := [(4, .int (zI (v4 + (-1)))), (0, .ref (aBr 0)), (1, .int (zI v1)), (2, .int (zI v2)), (3, .int (zI v3))]) dX0_insert_83 rfl (Nat.le_of_ble_eq_true rfl) rfl ?_
          refine g_goto (pc := 86) C (tgt := 17) dX0_insert_86 (by decide) ?_
          refine g_sub [1, 2, 3, 0] [1, 2, 3, 4, 0] (by decide) rfl rfl rfl ?_
          exact ih17 _ _ _ _ hf
  unfold fX0_insert at hf
  refine g_aload_n (pc := 0) C 0 dX0_insert_0 rfl rfl ?_
  refine g_get (pc := 1) C zf_X0_21 0 rfl rfl dX0_insert_1 ?_
  refine g_sipush (pc := 4) C dX0_insert_4 (by decide) ?_
  refine g_icmp_ltr (pc := 7) C (tgt := 11) dX0_insert_7 (by decide) (by decide) hf (fun hf => ?_) (fun hf => ?_)
  · refine g_aload_n (pc := 11) C 0 dX0_insert_11 rfl rfl ?_
    refine g_get (pc := 12) C zf_X0_21 0 rfl rfl dX0_insert_12 ?_
    refine g_istore (pc := 15) C (lv' := [(4, .int (zI br_size)), (0, .ref (aBr 0)), (1, .int (zI v1)), (2, .int (zI v2)), (3, .int (zI v3))]) dX0_insert_15 (Nat.le_of_ble_eq_true rfl) rfl ?_
    refine g_sub [0, 1, 2, 3] [1, 2, 3, 4, 0] (by decide) rfl rfl rfl ?_
    exact H17 _ _ _ _ _ _ hf
  · exact g_vret (pc := 10) C hf E rfl (fun _ => 0) [0, 1, 2, 3] (by decide) rfl rfl (Nat.le_refl _) (Nat.le_refl _) dX0_insert_10
def oX0_tell (ca : Nat → ClassId) (aBr : Nat → Nat) (br_minute : Nat → Int) (br_rule : Nat → Int) (br_much : Nat → Int) (br_size : Int) (Ro : Int) : (Nat → Nat) → va_W := fun _ => [((aBr 0), .inr (0, [.ref (aBr 1), .ref (aBr 2), .ref (aBr 3), .int (zI br_size)])), ((aBr 1), .inl (ca 0, 185, .inl (zA br_minute))), ((aBr 2), .inl (ca 0, 185, .inl (zA br_rule))), ((aBr 3), .inl (ca 0, 185, .inl (zA br_much)))]
def oiX0_tell (Ro : Int) : Option Value := (some (.int (zI Ro)))
set_option maxRecDepth 100000 in
theorem kX0_tell (l : Launch) (D : va_G) (ca : Nat → ClassId) (aBr : Nat → Nat) (br_minute : Nat → Int) (br_rule : Nat → Int) (br_much : Nat → Int) (br_size : Int) (v1 : Int) (v2 : Int) (Ro : Int)
    (hf : fX0_tell v1 v2 br_minute br_rule br_much br_size = some Ro) : Zc l D ca yX0_tell cX0_tell 3 (some .int) { frames := 0, cells := 0, slots := 0, locals := 0 } [.ref (aBr 0), .int (zI v1), .int (zI v2)] [((aBr 0), .inr (0, [.ref (aBr 1), .ref (aBr 2), .ref (aBr 3), .int (zI br_size)])), ((aBr 1), .inl (ca 0, 185, .inl (zA br_minute))), ((aBr 2), .inl (ca 0, 185, .inl (zA br_rule))), ((aBr 3), .inl (ca 0, 185, .inl (zA br_much)))] (oiX0_tell Ro) (oX0_tell ca aBr br_minute br_rule br_much br_size Ro) := by
  refine ctr_of (lv := [(0, .ref (aBr 0)), (1, .int (zI v1)), (2, .int (zI v2))]) (by decide +kernel) (Nat.le_of_ble_eq_true rfl) rfl (fun Γ hl0 C E hnm => ?_)
  have H12 : fX0_tell_12 = some Ro → Zd D Γ 0 0 [((aBr 0), .inr (0, [.ref (aBr 1), .ref (aBr 2), .ref (aBr 3), .int (zI br_size)])), ((aBr 1), .inl (ca 0, 185, .inl (zA br_minute))), ((aBr 2), .inl (ca 0, 185, .inl (zA br_rule))), ((aBr 3), .inl (ca 0, 185, .inl (zA br_much)))] 12 [] [] := by
    intro  hf
    unfold fX0_tell_12 at hf
    refine g_iconst (pc := 12) C dX0_tell_12 ?_
    exact g_iret (pc := 13) C hf E rfl (fun _ => 0) [0, 1, 2, 3] (by decide) rfl rfl (Nat.le_refl _) (Nat.le_refl _) dX0_tell_13
  unfold fX0_tell at hf
  refine g_iload_n (pc := 0) C 1 dX0_tell_0 rfl rfl ?_
  refine g_if_lt (pc := 1) C (tgt := 12) dX0_tell_1 (by decide) hf (fun hf => ?_) (fun hf => ?_)
  · refine g_sub [0, 1, 2, 3] [] (by decide) rfl rfl rfl ?_
    exact H12  hf
  · refine g_iload_n (pc := 4) C 1 dX0_tell_4 rfl rfl ?_
    refine g_aload_n (pc := 5) C 0 dX0_tell_5 rfl rfl ?_
    refine g_get (pc := 6) C zf_X0_21 0 rfl rfl dX0_tell_6 ?_
    refine g_icmp_lt (pc := 9) C (tgt := 14) dX0_tell_9 (by decide) hf (fun hf => ?_) (fun hf => ?_)
    · refine g_iload_n (pc := 14) C 2 dX0_tell_14 rfl rfl ?_
      obtain ⟨hx_15, hf⟩ := zck hf
      by_cases hc_15_0 : v2 = 0
      · rw [if_pos hc_15_0] at hf
        refine g_tabIn (pc := 15) C (tgt := 40) dX0_tell_15 hx_15 hc_15_0 (by decide) (by decide) rfl (by decide) ?_
        refine g_aload_n (pc := 40) C 0 dX0_tell_40 rfl rfl ?_
        refine g_get (pc := 41) C zf_X0_11 0 rfl rfl dX0_tell_41 ?_
        refine g_iload_n (pc := 44) C 1 dX0_tell_44 rfl rfl ?_
        refine g_iald (pc := 45) C (N := 185) 1 rfl rfl (Nat.le_of_ble_eq_true rfl) dX0_tell_45 hf (fun hf => ?_)
        exact g_iret (pc := 46) C hf E rfl (fun _ => 0) [0, 1, 2, 3] (by decide) rfl rfl (Nat.le_refl _) (Nat.le_refl _) dX0_tell_46
      · rw [if_neg hc_15_0] at hf
        by_cases hc_15_1 : v2 = 1
        · rw [if_pos hc_15_1] at hf
          refine g_tabIn (pc := 15) C (tgt := 47) dX0_tell_15 hx_15 hc_15_1 (by decide) (by decide) rfl (by decide) ?_
          refine g_aload_n (pc := 47) C 0 dX0_tell_47 rfl rfl ?_
          refine g_get (pc := 48) C zf_X0_15 0 rfl rfl dX0_tell_48 ?_
          refine g_iload_n (pc := 51) C 1 dX0_tell_51 rfl rfl ?_
          refine g_iald (pc := 52) C (N := 185) 2 rfl rfl (Nat.le_of_ble_eq_true rfl) dX0_tell_52 hf (fun hf => ?_)
          exact g_iret (pc := 53) C hf E rfl (fun _ => 0) [0, 1, 2, 3] (by decide) rfl rfl (Nat.le_refl _) (Nat.le_refl _) dX0_tell_53
        · rw [if_neg hc_15_1] at hf
          by_cases hc_15_2 : v2 = 2
          · rw [if_pos hc_15_2] at hf
            refine g_tabIn (pc := 15) C (tgt := 54) dX0_tell_15 hx_15 hc_15_2 (by decide) (by decide) rfl (by decide) ?_
            refine g_aload_n (pc := 54) C 0 dX0_tell_54 rfl rfl ?_
            refine g_get (pc := 55) C zf_X0_18 0 rfl rfl dX0_tell_55 ?_
            refine g_iload_n (pc := 58) C 1 dX0_tell_58 rfl rfl ?_
            refine g_iald (pc := 59) C (N := 185) 3 rfl rfl (Nat.le_of_ble_eq_true rfl) dX0_tell_59 hf (fun hf => ?_)
            exact g_iret (pc := 60) C hf E rfl (fun _ => 0) [0, 1, 2, 3] (by decide) rfl rfl (Nat.le_refl _) (Nat.le_refl _) dX0_tell_60
          · rw [if_neg hc_15_2] at hf
            refine g_tabOut (pc := 15) C (tgt := 61) dX0_tell_15 hx_15 (by omega) (by decide) ?_
            refine g_iconst (pc := 61) C dX0_tell_61 ?_
            exact g_iret (pc := 62) C hf E rfl (fun _ => 0) [0, 1, 2, 3] (by decide) rfl rfl (Nat.le_refl _) (Nat.le_refl _) dX0_tell_62
    · refine g_sub [0, 1, 2, 3] [] (by decide) rfl rfl rfl ?_
      exact H12  hf
def oX8_insert (ca : Nat → ClassId) (aTr : Nat → Nat)  (Ro : Int × (Nat → Int) × (Nat → Int) × Int) : (Nat → Nat) → va_W := fun _ => [((aTr 0), .inr (8, [.ref (aTr 1), .ref (aTr 2), .int (zI (Ro.2.2.2))])), ((aTr 1), .inl (ca 0, 20, .inl (zA (Ro.2.1)))), ((aTr 2), .inl (ca 0, 20, .inl (zA (Ro.2.2.1))))]
def oiX8_insert (Ro : Int × (Nat → Int) × (Nat → Int) × Int) : Option Value := (some (.int (zI Ro.1)))
set_option maxRecDepth 100000 in
theorem kX8_insert (l : Launch) (D : va_G) (ca : Nat → ClassId) (aTr : Nat → Nat) (tr_from : Nat → Int) (tr_to : Nat → Int) (tr_size : Int) (v1 : Int) (v2 : Int) (Ro : Int × (Nat → Int) × (Nat → Int) × Int)
    (hf : fX8_insert v1 v2 tr_from tr_to tr_size = some Ro) : Zc l D ca yX8_insert cX8_insert 4 (some .boolean) { frames := 1, cells := 0, slots := 0, locals := 18 } [.ref (aTr 0), .int (zI v1), .int (zI v2)] [((aTr 0), .inr (8, [.ref (aTr 1), .ref (aTr 2), .int (zI tr_size)])), ((aTr 1), .inl (ca 0, 20, .inl (zA tr_from))), ((aTr 2), .inl (ca 0, 20, .inl (zA tr_to)))] (oiX8_insert Ro) (oX8_insert ca aTr Ro) := by
  refine ctr_of (lv := [(0, .ref (aTr 0)), (1, .int (zI v1)), (2, .int (zI v2))]) (by decide +kernel) (Nat.le_of_ble_eq_true rfl) rfl (fun Γ hl0 C E hnm => ?_)
  have H57 : ∀ (v3 : Int) (tr_from : Nat → Int) (tr_to : Nat → Int) (tr_size : Int), fX8_insert_57 v1 v2 v3 tr_from tr_to tr_size = some Ro → Zd D Γ 0 0 [((aTr 0), .inr (8, [.ref (aTr 1), .ref (aTr 2), .int (zI tr_size)])), ((aTr 1), .inl (ca 0, 20, .inl (zA tr_from))), ((aTr 2), .inl (ca 0, 20, .inl (zA tr_to)))] 57 [(0, .ref (aTr 0)), (1, .int (zI v1)), (2, .int (zI v2)), (3, .int (zI v3))] [] := by
    intro v3 tr_from tr_to tr_size hf
    unfold fX8_insert_57 at hf
    refine g_aload_n (pc := 57) C 0 dX8_insert_57 rfl rfl ?_
    refine g_get (pc := 58) C zf_X8_9 0 rfl rfl dX8_insert_58 ?_
    refine g_iload_n (pc := 61) C 3 dX8_insert_61 rfl rfl ?_
    refine g_aload_n (pc := 62) C 0 dX8_insert_62 rfl rfl ?_
    refine g_get (pc := 63) C zf_X8_9 0 rfl rfl dX8_insert_63 ?_
    refine g_iload_n (pc := 66) C 3 dX8_insert_66 rfl rfl ?_
    refine g_iconst (pc := 67) C dX8_insert_67 ?_
    refine g_iadd (pc := 68) C dX8_insert_68 ?_
    refine g_aload_n (pc := 69) C 0 dX8_insert_69 rfl rfl ?_
    refine g_get (pc := 70) C zf_X8_16 0 rfl rfl dX8_insert_70 ?_
    refine g_iload_n (pc := 73) C 3 dX8_insert_73 rfl rfl ?_
    refine g_isub (pc := 74) C dX8_insert_74 ?_
    refine g_copyi (pc := 75) C (N0 := 20) (N1 := 20) (ws' := [((aTr 0), .inr (8, [.ref (aTr 1), .ref (aTr 2), .int (zI tr_size)])), ((aTr 1), .inl (ca 0, 20, .inl (zA (zcp tr_from tr_from v3.toNat (v3 + 1).toNat (tr_size - v3).toNat)))), ((aTr 2), .inl (ca 0, 20, .inl (zA tr_to)))]) wml_RX8_20 (Nat.le_of_ble_eq_true rfl) (Nat.le_of_ble_eq_true rfl) 1 1 rfl rfl rfl rfl (Nat.le_of_ble_eq_true rfl) (Nat.le_of_ble_eq_true rfl) rfl dX8_insert_75 hf (fun hf => ?_)
    refine g_aload_n (pc := 78) C 0 dX8_insert_78 rfl rfl ?_
    refine g_get (pc := 79) C zf_X8_13 0 rfl rfl dX8_insert_79 ?_
    refine g_iload_n (pc := 82) C 3 dX8_insert_82 rfl rfl ?_
    refine g_aload_n (pc := 83) C 0 dX8_insert_83 rfl rfl ?_
    refine g_get (pc := 84) C zf_X8_13 0 rfl rfl dX8_insert_84 ?_
    refine g_iload_n (pc := 87) C 3 dX8_insert_87 rfl rfl ?_
    refine g_iconst (pc := 88) C dX8_insert_88 ?_
    refine g_iadd (pc := 89) C dX8_insert_89 ?_
    refine g_aload_n (pc := 90) C 0 dX8_insert_90 rfl rfl ?_
    refine g_get (pc := 91) C zf_X8_16 0 rfl rfl dX8_insert_91 ?_
    refine g_iload_n (pc := 94) C 3 dX8_insert_94 rfl rfl ?_
    refine g_isub (pc := 95) C dX8_insert_95 ?_
    refine g_copyi (pc := 96) C (N0 := 20) (N1 := 20) (ws' := [((aTr 0), .inr (8, [.ref (aTr 1), .ref (aTr 2), .int (zI tr_size)])), ((aTr 1), .inl (ca 0, 20, .inl (zA (zcp tr_from tr_from v3.toNat (v3 + 1).toNat (tr_size - v3).toNat)))), ((aTr 2), .inl (ca 0, 20, .inl (zA (zcp tr_to tr_to v3.toNat (v3 + 1).toNat (tr_size - v3).toNat))))]) wml_RX8_20 (Nat.le_of_ble_eq_true rfl) (Nat.le_of_ble_eq_true rfl) 2 2 rfl rfl rfl rfl (Nat.le_of_ble_eq_true rfl) (Nat.le_of_ble_eq_true rfl) rfl dX8_insert_96 hf (fun hf => ?_)
    refine g_aload_n (pc := 99) C 0 dX8_insert_99 rfl rfl ?_
    refine g_get (pc := 100) C zf_X8_9 0 rfl rfl dX8_insert_100 ?_
    refine g_iload_n (pc := 103) C 3 dX8_insert_103 rfl rfl ?_
    refine g_iload_n (pc := 104) C 1 dX8_insert_104 rfl rfl ?_
    refine g_iast (pc := 105) C (N := 20) (ws' := [((aTr 0), .inr (8, [.ref (aTr 1), .ref (aTr 2), .int (zI tr_size)])), ((aTr 1), .inl (ca 0, 20, .inl (zA (zU (zcp tr_from tr_from v3.toNat (v3 + 1).toNat (tr_size - v3).toNat) v3.toNat v1)))), ((aTr 2), .inl (ca 0, 20, .inl (zA (zcp tr_to tr_to v3.toNat (v3 + 1).toNat (tr_size - v3).toNat))))]) 1 rfl rfl (Nat.le_of_ble_eq_true rfl) rfl dX8_insert_105 hf (fun hf => ?_)
    refine g_aload_n (pc := 106) C 0 dX8_insert_106 rfl rfl ?_
    refine g_get (pc := 107) C zf_X8_13 0 rfl rfl dX8_insert_107 ?_
    refine g_iload_n (pc := 110) C 3 dX8_insert_110 rfl rfl ?_
    refine g_iload_n (pc := 111) C 2 dX8_insert_111 rfl rfl ?_
    refine g_iast (pc := 112) C (N := 20) (ws' := [((aTr 0), .inr (8, [.ref (aTr 1), .ref (aTr 2), .int (zI tr_size)])), ((aTr 1), .inl (ca 0, 20, .inl (zA (zU (zcp tr_from tr_from v3.toNat (v3 + 1).toNat (tr_size - v3).toNat) v3.toNat v1)))), ((aTr 2), .inl (ca 0, 20, .inl (zA (zU (zcp tr_to tr_to v3.toNat (v3 + 1).toNat (tr_size - v3).toNat) v3.toNat v2))))]) 2 rfl rfl (Nat.le_of_ble_eq_true rfl) rfl dX8_insert_112 hf (fun hf => ?_)
    refine g_aload_n (pc := 113) C 0 dX8_insert_113 rfl rfl ?_
    refine g_dup (pc := 114) C dX8_insert_114 rfl ?_
    refine g_get (pc := 115) C zf_X8_16 0 rfl rfl dX8_insert_115 ?_
    refine g_iconst (pc := 118) C dX8_insert_118 ?_
    refine g_iadd (pc := 119) C dX8_insert_119 ?_
    refine g_put (pc := 120) C zf_X8_16 tyX8 tyX8_ok nmX8 (v := .int (zI (tr_size + 1))) (ws' := [((aTr 0), .inr (8, [.ref (aTr 1), .ref (aTr 2), .int (zI (tr_size + 1))])), ((aTr 1), .inl (ca 0, 20, .inl (zA (zU (zcp tr_from tr_from v3.toNat (v3 + 1).toNat (tr_size - v3).toNat) v3.toNat v1)))), ((aTr 2), .inl (ca 0, 20, .inl (zA (zU (zcp tr_to tr_to v3.toNat (v3 + 1).toNat (tr_size - v3).toNat) v3.toNat v2))))]) 0 rfl rfl rfl rfl rfl (Nat.le_of_ble_eq_true rfl) rfl rfl dX8_insert_120 ?_
    refine g_iconst (pc := 123) C dX8_insert_123 ?_
    exact g_zret (pc := 124) C hf E (by decide) rfl (fun _ => 0) [0, 1, 2] (by decide) rfl rfl (Nat.le_refl _) (Nat.le_refl _) dX8_insert_124
  have H37 : ∀ (v3 : Int) (tr_from : Nat → Int) (tr_to : Nat → Int) (tr_size : Int), fX8_insert_37 v1 v2 v3 tr_from tr_to tr_size = some Ro → Zd D Γ 0 0 [((aTr 0), .inr (8, [.ref (aTr 1), .ref (aTr 2), .int (zI tr_size)])), ((aTr 1), .inl (ca 0, 20, .inl (zA tr_from))), ((aTr 2), .inl (ca 0, 20, .inl (zA tr_to)))] 37 [(0, .ref (aTr 0)), (1, .int (zI v1)), (2, .int (zI v2)), (3, .int (zI v3))] [] := by
    intro v3 tr_from tr_to tr_size hf
    unfold fX8_insert_37 at hf
    refine g_iload_n (pc := 37) C 3 dX8_insert_37 rfl rfl ?_
    refine g_aload_n (pc := 38) C 0 dX8_insert_38 rfl rfl ?_
    refine g_get (pc := 39) C zf_X8_16 0 rfl rfl dX8_insert_39 ?_
    refine g_icmp_ge (pc := 42) C (tgt := 57) dX8_insert_42 (by decide) hf (fun hf => ?_) (fun hf => ?_)
    · exact H57 _ _ _ _ hf
    · refine g_aload_n (pc := 45) C 0 dX8_insert_45 rfl rfl ?_
      refine g_get (pc := 46) C zf_X8_9 0 rfl rfl dX8_insert_46 ?_
      refine g_iload_n (pc := 49) C 3 dX8_insert_49 rfl rfl ?_
      refine g_iald (pc := 50) C (N := 20) 1 rfl rfl (Nat.le_of_ble_eq_true rfl) dX8_insert_50 hf (fun hf => ?_)
      refine g_iload_n (pc := 51) C 2 dX8_insert_51 rfl rfl ?_
      refine g_icmp_ge (pc := 52) C (tgt := 57) dX8_insert_52 (by decide) hf (fun hf => ?_) (fun hf => ?_)
      · exact H57 _ _ _ _ hf
      · refine g_iconst (pc := 55) C dX8_insert_55 ?_
        exact g_zret (pc := 56) C hf E (by decide) rfl (fun _ => 0) [0, 1, 2] (by decide) rfl rfl (Nat.le_refl _) (Nat.le_refl _) dX8_insert_56
  have H13 : ∀ (tr_from : Nat → Int) (tr_to : Nat → Int) (tr_size : Int) (n13 : Nat) (v3 : Int), zlp (fX8_insert_13 v1 v2 tr_from tr_to tr_size) n13 v3 = some Ro → Zd D Γ 0 0 [((aTr 0), .inr (8, [.ref (aTr 1), .ref (aTr 2), .int (zI tr_size)])), ((aTr 1), .inl (ca 0, 20, .inl (zA tr_from))), ((aTr 2), .inl (ca 0, 20, .inl (zA tr_to)))] 13 [(0, .ref (aTr 0)), (1, .int (zI v1)), (2, .int (zI v2)), (3, .int (zI v3))] [] := by
    intro tr_from tr_to tr_size
    intro n13
    induction n13 with
    | zero =>
      intro v3 hf
      exact zno hf
    | succ n13 ih13 =>
      intro v3 hf
      rw [zlp_s] at hf
      unfold fX8_insert_13 at hf
      refine g_iload_n (pc := 13) C 3 dX8_insert_13 rfl rfl ?_
      refine g_aload_n (pc := 14) C 0 dX8_insert_14 rfl rfl ?_
      refine g_get (pc := 15) C zf_X8_16 0 rfl rfl dX8_insert_15 ?_
      refine g_icmp_ge (pc := 18) C (tgt := 37) dX8_insert_18 (by decide) hf (fun hf => ?_) (fun hf => ?_)
      · exact H37 _ _ _ _ hf
      · refine g_aload_n (pc := 21) C 0 dX8_insert_21 rfl rfl ?_
        refine g_get (pc := 22) C zf_X8_13 0 rfl rfl dX8_insert_22 ?_
        refine g_iload_n (pc := 25) C 3 dX8_insert_25 rfl rfl ?_
        refine g_iald (pc := 26) C (N := 20) 2 rfl rfl (Nat.le_of_ble_eq_true rfl) dX8_insert_26 hf (fun hf => ?_)
        refine g_iload_n (pc := 27) C 1 dX8_insert_27 rfl rfl ?_
        refine g_icmp_gt (pc := 28) C (tgt := 37) dX8_insert_28 (by decide) hf (fun hf => ?_) (fun hf => ?_)
        · exact H37 _ _ _ _ hf
        · refine g_iinc (pc := 31) C 3 (lv' := [(3, .int (zI (v3 + 1))), (0, .ref (aTr 0)), (1, .int (zI v1)), (2, .int (zI v2))]) dX8_insert_31 rfl (Nat.le_of_ble_eq_true rfl) rfl ?_
          refine g_goto (pc := 34) C (tgt := 13) dX8_insert_34 (by decide) ?_
          refine g_sub [0, 1, 2] [1, 2, 3, 0] (by decide) rfl rfl rfl ?_
          exact ih13 _ hf
  unfold fX8_insert at hf
  refine g_aload_n (pc := 0) C 0 dX8_insert_0 rfl rfl ?_
  refine g_get (pc := 1) C zf_X8_16 0 rfl rfl dX8_insert_1 ?_
  refine g_bipush (pc := 4) C dX8_insert_4 (by decide) ?_
  refine g_icmp_ltr (pc := 6) C (tgt := 11) dX8_insert_6 (by decide) (by decide) hf (fun hf => ?_) (fun hf => ?_)
  · refine g_iconst (pc := 11) C dX8_insert_11 ?_
    refine g_istore_n (pc := 12) C (lv' := [(3, .int (zI 0)), (0, .ref (aTr 0)), (1, .int (zI v1)), (2, .int (zI v2))]) dX8_insert_12 rfl (Nat.le_of_ble_eq_true rfl) rfl ?_
    refine g_sub [0, 1, 2] [1, 2, 3, 0] (by decide) rfl rfl rfl ?_
    exact H13 _ _ _ _ _ hf
  · refine g_iconst (pc := 9) C dX8_insert_9 ?_
    exact g_zret (pc := 10) C hf E (by decide) rfl (fun _ => 0) [0, 1, 2] (by decide) rfl rfl (Nat.le_refl _) (Nat.le_refl _) dX8_insert_10
def oX4_canBe (ca : Nat → ClassId)   (Ro : Int) : (Nat → Nat) → va_W := fun _ => []
def oiX4_canBe (Ro : Int) : Option Value := (some (.int (zI Ro)))
set_option maxRecDepth 100000 in
theorem kX4_canBe (l : Launch) (D : va_G) (ca : Nat → ClassId)   (v0 : Int) (v1 : Int) (Ro : Int)
    (hf : fX4_canBe v0 v1 = some Ro) : Zc l D ca yX4_canBe cX4_canBe 2 (some .boolean) { frames := 0, cells := 0, slots := 0, locals := 0 } [.int (zI v0), .int (zI v1)] [] (oiX4_canBe Ro) (oX4_canBe ca Ro) := by
  refine ctr_of (lv := [(0, .int (zI v0)), (1, .int (zI v1))]) (by decide +kernel) (Nat.le_of_ble_eq_true rfl) rfl (fun Γ hl0 C E hnm => ?_)
  have H12 : fX4_canBe_12 v1 = some Ro → Zd D Γ 0 0 [] 12 [(1, .int (zI v1))] [] := by
    intro  hf
    unfold fX4_canBe_12 at hf
    refine g_iload_n (pc := 12) C 0 dX4_canBe_12 rfl rfl ?_
    refine g_bipush (pc := 13) C dX4_canBe_13 (by decide) ?_
    refine g_icmp_gtr (pc := 15) C (tgt := 22) dX4_canBe_15 (by decide) (by decide) hf (fun hf => ?_) (fun hf => ?_)
    · refine g_iconst (pc := 22) C dX4_canBe_22 ?_
      exact g_zret (pc := 23) C hf E (by decide) rfl (fun _ => 0) [] (by decide) rfl rfl (Nat.le_refl _) (Nat.le_refl _) dX4_canBe_23
    · refine g_iconst (pc := 18) C dX4_canBe_18 ?_
      refine g_goto (pc := 19) C (tgt := 23) dX4_canBe_19 (by decide) ?_
      exact g_zret (pc := 23) C hf E (by decide) rfl (fun _ => 0) [] (by decide) rfl rfl (Nat.le_refl _) (Nat.le_refl _) dX4_canBe_23
  unfold fX4_canBe at hf
  refine g_iload_n (pc := 0) C 0 dX4_canBe_0 rfl rfl ?_
  refine g_bipush (pc := 1) C dX4_canBe_1 (by decide) ?_
  refine g_icmp_eqr (pc := 3) C (tgt := 12) dX4_canBe_3 (by decide) (by decide) hf (fun hf => ?_) (fun hf => ?_)
  · refine g_sub [] [1] (by decide) rfl rfl rfl ?_
    exact H12  hf
  · refine g_iload_n (pc := 6) C 0 dX4_canBe_6 rfl rfl ?_
    refine g_bipush (pc := 7) C dX4_canBe_7 (by decide) ?_
    refine g_icmp_ner (pc := 9) C (tgt := 24) dX4_canBe_9 (by decide) (by decide) hf (fun hf => ?_) (fun hf => ?_)
    · refine g_iload_n (pc := 24) C 1 dX4_canBe_24 rfl rfl ?_
      refine g_iconst (pc := 25) C dX4_canBe_25 ?_
      refine g_icmp_ltr (pc := 26) C (tgt := 33) dX4_canBe_26 (by decide) (by decide) hf (fun hf => ?_) (fun hf => ?_)
      · refine g_iconst (pc := 33) C dX4_canBe_33 ?_
        exact g_zret (pc := 34) C hf E (by decide) rfl (fun _ => 0) [] (by decide) rfl rfl (Nat.le_refl _) (Nat.le_refl _) dX4_canBe_34
      · refine g_iconst (pc := 29) C dX4_canBe_29 ?_
        refine g_goto (pc := 30) C (tgt := 34) dX4_canBe_30 (by decide) ?_
        exact g_zret (pc := 34) C hf E (by decide) rfl (fun _ => 0) [] (by decide) rfl rfl (Nat.le_refl _) (Nat.le_refl _) dX4_canBe_34
    · refine g_sub [] [1] (by decide) rfl rfl rfl ?_
      exact H12  hf
def oX4_endOfDigits (ca : Nat → ClassId) (ap0 : Nat) (p0 : Nat → Int) (Ro : Int) : (Nat → Nat) → va_W := fun _ => [(ap0, .inl (ca 0, 80, .inl (zA p0)))]
def oiX4_endOfDigits (Ro : Int) : Option Value := (some (.int (zI Ro)))
set_option maxRecDepth 100000 in
theorem kX4_endOfDigits (l : Launch) (D : va_G) (ca : Nat → ClassId) (ap0 : Nat) (p0 : Nat → Int) (v1 : Int) (v2 : Int) (Ro : Int)
    (hf : fX4_endOfDigits v1 v2 p0 = some Ro) : Zc l D ca yX4_endOfDigits cX4_endOfDigits 4 (some .int) { frames := 0, cells := 0, slots := 0, locals := 0 } [.ref ap0, .int (zI v1), .int (zI v2)] [(ap0, .inl (ca 0, 80, .inl (zA p0)))] (oiX4_endOfDigits Ro) (oX4_endOfDigits ca ap0 p0 Ro) := by
  refine ctr_of (lv := [(0, .ref ap0), (1, .int (zI v1)), (2, .int (zI v2))]) (by decide +kernel) (Nat.le_of_ble_eq_true rfl) rfl (fun Γ hl0 C E hnm => ?_)
  have H29 : ∀ (v3 : Int), fX4_endOfDigits_29 v3 = some Ro → Zd D Γ 0 0 [(ap0, .inl (ca 0, 80, .inl (zA p0)))] 29 [(3, .int (zI v3))] [] := by
    intro v3 hf
    unfold fX4_endOfDigits_29 at hf
    refine g_iload_n (pc := 29) C 0 dX4_endOfDigits_29 rfl rfl ?_
    exact g_iret (pc := 30) C hf E rfl (fun _ => 0) [0] (by decide) rfl rfl (Nat.le_refl _) (Nat.le_refl _) dX4_endOfDigits_30
  have H2 : ∀  (n2 : Nat) (v3 : Int), zlp (fX4_endOfDigits_2 v2 p0) n2 v3 = some Ro → Zd D Γ 0 0 [(ap0, .inl (ca 0, 80, .inl (zA p0)))] 2 [(0, .ref ap0), (2, .int (zI v2)), (3, .int (zI v3))] [] := by
    intro n2
    induction n2 with
    | zero =>
      intro v3 hf
      exact zno hf
    | succ n2 ih2 =>
      intro v3 hf
      rw [zlp_s] at hf
      unfold fX4_endOfDigits_2 at hf
      refine g_iload_n (pc := 2) C 2 dX4_endOfDigits_2 rfl rfl ?_
      refine g_iload_n (pc := 3) C 1 dX4_endOfDigits_3 rfl rfl ?_
      refine g_icmp_ge (pc := 4) C (tgt := 29) dX4_endOfDigits_4 (by decide) hf (fun hf => ?_) (fun hf => ?_)
      · refine g_sub [0] [2] (by decide) rfl rfl rfl ?_
        exact H29 _ hf
      · refine g_aload_n (pc := 7) C 0 dX4_endOfDigits_7 rfl rfl ?_
        refine g_iload_n (pc := 8) C 2 dX4_endOfDigits_8 rfl rfl ?_
        refine g_iald (pc := 9) C (N := 80) 0 rfl rfl (Nat.le_of_ble_eq_true rfl) dX4_endOfDigits_9 hf (fun hf => ?_)
        refine g_bipush (pc := 10) C dX4_endOfDigits_10 (by decide) ?_
        refine g_icmp_ltr (pc := 12) C (tgt := 29) dX4_endOfDigits_12 (by decide) (by decide) hf (fun hf => ?_) (fun hf => ?_)
        · refine g_sub [0] [2] (by decide) rfl rfl rfl ?_
          exact H29 _ hf
        · refine g_aload_n (pc := 15) C 0 dX4_endOfDigits_15 rfl rfl ?_
          refine g_iload_n (pc := 16) C 2 dX4_endOfDigits_16 rfl rfl ?_
          refine g_iald (pc := 17) C (N := 80) 0 rfl rfl (Nat.le_of_ble_eq_true rfl) dX4_endOfDigits_17 hf (fun hf => ?_)
          refine g_bipush (pc := 18) C dX4_endOfDigits_18 (by decide) ?_
          refine g_icmp_gtr (pc := 20) C (tgt := 29) dX4_endOfDigits_20 (by decide) (by decide) hf (fun hf => ?_) (fun hf => ?_)
          · refine g_sub [0] [2] (by decide) rfl rfl rfl ?_
            exact H29 _ hf
          · refine g_iinc (pc := 23) C 2 (lv' := [(3, .int (zI (v3 + 1))), (0, .ref ap0), (2, .int (zI v2))]) dX4_endOfDigits_23 rfl (Nat.le_of_ble_eq_true rfl) rfl ?_
            refine g_goto (pc := 26) C (tgt := 2) dX4_endOfDigits_26 (by decide) ?_
            refine g_sub [0] [1, 2, 0] (by decide) rfl rfl rfl ?_
            exact ih2 _ hf
  unfold fX4_endOfDigits at hf
  refine g_iload_n (pc := 0) C 1 dX4_endOfDigits_0 rfl rfl ?_
  refine g_istore_n (pc := 1) C (lv' := [(3, .int (zI v1)), (0, .ref ap0), (1, .int (zI v1)), (2, .int (zI v2))]) dX4_endOfDigits_1 rfl (Nat.le_of_ble_eq_true rfl) rfl ?_
  refine g_sub [0] [1, 3, 0] (by decide) rfl rfl rfl ?_
  exact H2 _ _ hf
def oX4_numberOf (ca : Nat → ClassId) (ap0 : Nat) (p0 : Nat → Int) (Ro : Int) : (Nat → Nat) → va_W := fun _ => [(ap0, .inl (ca 0, 80, .inl (zA p0)))]
def oiX4_numberOf (Ro : Int) : Option Value := (some (.int (zI Ro)))
set_option maxRecDepth 100000 in
theorem kX4_numberOf (l : Launch) (D : va_G) (ca : Nat → ClassId) (ap0 : Nat) (p0 : Nat → Int) (v1 : Int) (v2 : Int) (Ro : Int)
    (hf : fX4_numberOf v1 v2 p0 = some Ro) : Zc l D ca yX4_numberOf cX4_numberOf 5 (some .int) { frames := 0, cells := 0, slots := 0, locals := 0 } [.ref ap0, .int (zI v1), .int (zI v2)] [(ap0, .inl (ca 0, 80, .inl (zA p0)))] (oiX4_numberOf Ro) (oX4_numberOf ca ap0 p0 Ro) := by
  refine ctr_of (lv := [(0, .ref ap0), (1, .int (zI v1)), (2, .int (zI v2))]) (by decide +kernel) (Nat.le_of_ble_eq_true rfl) rfl (fun Γ hl0 C E hnm => ?_)
  have H5 : ∀  (n5 : Nat) (v3 : Int) (v4 : Int), zlp (fX4_numberOf_5 v2 p0) n5 (v3, v4) = some Ro → Zd D Γ 0 0 [(ap0, .inl (ca 0, 80, .inl (zA p0)))] 5 [(0, .ref ap0), (2, .int (zI v2)), (3, .int (zI v3)), (4, .int (zI v4))] [] := by
    intro n5
    induction n5 with
    | zero =>
      intro v3 v4 hf
      exact zno hf
    | succ n5 ih5 =>
      intro v3 v4 hf
      rw [zlp_s] at hf
      unfold fX4_numberOf_5 at hf
      dsimp only at hf
      refine g_iload (pc := 5) C 3 dX4_numberOf_5 rfl ?_
      refine g_iload_n (pc := 7) C 1 dX4_numberOf_7 rfl rfl ?_
      refine g_icmp_ge (pc := 8) C (tgt := 30) dX4_numberOf_8 (by decide) hf (fun hf => ?_) (fun hf => ?_)
      · refine g_iload_n (pc := 30) C 2 dX4_numberOf_30 rfl rfl ?_
        exact g_iret (pc := 31) C hf E rfl (fun _ => 0) [0] (by decide) rfl rfl (Nat.le_refl _) (Nat.le_refl _) dX4_numberOf_31
      · refine g_iload_n (pc := 11) C 2 dX4_numberOf_11 rfl rfl ?_
        refine g_bipush (pc := 12) C dX4_numberOf_12 (by decide) ?_
        refine g_imul (pc := 14) C dX4_numberOf_14 ?_
        refine g_aload_n (pc := 15) C 0 dX4_numberOf_15 rfl rfl ?_
        refine g_iload (pc := 16) C 3 dX4_numberOf_16 rfl ?_
        refine g_iald (pc := 18) C (N := 80) 0 rfl rfl (Nat.le_of_ble_eq_true rfl) dX4_numberOf_18 hf (fun hf => ?_)
        refine g_iadd (pc := 19) C dX4_numberOf_19 ?_
        refine g_bipush (pc := 20) C dX4_numberOf_20 (by decide) ?_
        refine g_isub (pc := 22) C dX4_numberOf_22 ?_
        refine g_istore_n (pc := 23) C (lv' := [(3, .int (zI (((v3 * 10) + (p0 v4.toNat)) - 48))), (0, .ref ap0), (2, .int (zI v2)), (4, .int (zI v4))]) dX4_numberOf_23 rfl (Nat.le_of_ble_eq_true rfl) rfl ?_
        refine g_iinc (pc := 24) C 3 (lv' := [(4, .int (zI (v4 + 1))), (3, .int (zI (((v3 * 10) + (p0 v4.toNat)) - 48))), (0, .ref ap0), (2, .int (zI v2))]) dX4_numberOf_24 rfl (Nat.le_of_ble_eq_true rfl) rfl ?_
        refine g_goto (pc := 27) C (tgt := 5) dX4_numberOf_27 (by decide) ?_
        refine g_sub [0] [2, 3, 1, 0] (by decide) rfl rfl rfl ?_
        exact ih5 _ _ hf
  unfold fX4_numberOf at hf
  refine g_iconst (pc := 0) C dX4_numberOf_0 ?_
  refine g_istore_n (pc := 1) C (lv' := [(3, .int (zI 0)), (0, .ref ap0), (1, .int (zI v1)), (2, .int (zI v2))]) dX4_numberOf_1 rfl (Nat.le_of_ble_eq_true rfl) rfl ?_
  refine g_iload_n (pc := 2) C 2 dX4_numberOf_2 rfl rfl ?_
  refine g_istore (pc := 3) C (lv' := [(4, .int (zI v1)), (3, .int (zI 0)), (0, .ref ap0), (1, .int (zI v1)), (2, .int (zI v2))]) dX4_numberOf_3 (Nat.le_of_ble_eq_true rfl) rfl ?_
  refine g_sub [0] [2, 4, 1, 0] (by decide) rfl rfl rfl ?_
  exact H5 _ _ _ hf
def oX6_driveMinute (ca : Nat → ClassId) (aRd : Nat → Nat) (rd_kind : Nat → Int) (rd_begin : Nat → Int) (rd_acts : Int) (rd_total : Int) (rd_drive : Int) (rd_runs : Int) (Ro : Int) : (Nat → Nat) → va_W := fun _ => [((aRd 0), .inr (6, [.ref (aRd 1), .ref (aRd 2), .ref (aRd 3), .ref (aRd 4), .ref (aRd 5), .int (zI rd_acts), .int (zI rd_total), .int (zI rd_drive), .int (zI rd_runs)])), ((aRd 1), .inl (ca 0, 60, .inl (zA rd_kind))), ((aRd 2), .inl (ca 0, 61, .inl (zA rd_begin)))]
def oiX6_driveMinute (Ro : Int) : Option Value := (some (.int (zI Ro)))
set_option maxRecDepth 100000 in
theorem kX6_driveMinute (l : Launch) (D : va_G) (ca : Nat → ClassId) (aRd : Nat → Nat) (rd_kind : Nat → Int) (rd_begin : Nat → Int) (rd_acts : Int) (rd_total : Int) (rd_drive : Int) (rd_runs : Int) (v1 : Int) (Ro : Int)
    (hf : fX6_driveMinute v1 rd_kind rd_begin rd_acts rd_total = some Ro) : Zc l D ca yX6_driveMinute cX6_driveMinute 4 (some .int) { frames := 0, cells := 0, slots := 0, locals := 0 } [.ref (aRd 0), .int (zI v1)] [((aRd 0), .inr (6, [.ref (aRd 1), .ref (aRd 2), .ref (aRd 3), .ref (aRd 4), .ref (aRd 5), .int (zI rd_acts), .int (zI rd_total), .int (zI rd_drive), .int (zI rd_runs)])), ((aRd 1), .inl (ca 0, 60, .inl (zA rd_kind))), ((aRd 2), .inl (ca 0, 61, .inl (zA rd_begin)))] (oiX6_driveMinute Ro) (oX6_driveMinute ca aRd rd_kind rd_begin rd_acts rd_total rd_drive rd_runs Ro) := by
  refine ctr_of (lv := [(0, .ref (aRd 0)), (1, .int (zI v1))]) (by decide +kernel) (Nat.le_of_ble_eq_true rfl) rfl (fun Γ hl0 C E hnm => ?_)
  have H4 : ∀  (n4 : Nat) (v2 : Int) (v3 : Int), zlp (fX6_driveMinute_4 rd_kind rd_begin rd_acts rd_total) n4 (v2, v3) = some Ro → Zd D Γ 0 0 [((aRd 0), .inr (6, [.ref (aRd 1), .ref (aRd 2), .ref (aRd 3), .ref (aRd 4), .ref (aRd 5), .int (zI rd_acts), .int (zI rd_total), .int (zI rd_drive), .int (zI rd_runs)])), ((aRd 1), .inl (ca 0, 60, .inl (zA rd_kind))), ((aRd 2), .inl (ca 0, 61, .inl (zA rd_begin)))] 4 [(0, .ref (aRd 0)), (2, .int (zI v2)), (3, .int (zI v3))] [] := by
    intro n4
    induction n4 with
    | zero =>
      intro v2 v3 hf
      exact zno hf
    | succ n4 ih4 =>
      have H67 : ∀ (v2 : Int) (v3 : Int), fX6_driveMinute_67 (zlp (fX6_driveMinute_4 rd_kind rd_begin rd_acts rd_total) n4) v2 v3 = some Ro → Zd D Γ 0 0 [((aRd 0), .inr (6, [.ref (aRd 1), .ref (aRd 2), .ref (aRd 3), .ref (aRd 4), .ref (aRd 5), .int (zI rd_acts), .int (zI rd_total), .int (zI rd_drive), .int (zI rd_runs)])), ((aRd 1), .inl (ca 0, 60, .inl (zA rd_kind))), ((aRd 2), .inl (ca 0, 61, .inl (zA rd_begin)))] 67 [(0, .ref (aRd 0)), (2, .int (zI v2)), (3, .int (zI v3))] [] := by
        intro v2 v3 hf
        unfold fX6_driveMinute_67 at hf
        refine g_iinc (pc := 67) C 2 (lv' := [(3, .int (zI (v3 + 1))), (0, .ref (aRd 0)), (2, .int (zI v2))]) dX6_driveMinute_67 rfl (Nat.le_of_ble_eq_true rfl) rfl ?_
        refine g_goto (pc := 70) C (tgt := 4) dX6_driveMinute_70 (by decide) ?_
        refine g_sub [0, 1, 2] [1, 2, 0] (by decide) rfl rfl rfl ?_
        exact ih4 _ _ hf
      intro v2 v3 hf
      rw [zlp_s] at hf
      unfold fX6_driveMinute_4 at hf
      dsimp only at hf
      refine g_iload_n (pc := 4) C 2 dX6_driveMinute_4 rfl rfl ?_
      refine g_aload_n (pc := 5) C 0 dX6_driveMinute_5 rfl rfl ?_
      refine g_get (pc := 6) C zf_X6_27 0 rfl rfl dX6_driveMinute_6 ?_
      refine g_icmp_ge (pc := 9) C (tgt := 73) dX6_driveMinute_9 (by decide) hf (fun hf => ?_) (fun hf => ?_)
      · refine g_aload_n (pc := 73) C 0 dX6_driveMinute_73 rfl rfl ?_
        refine g_get (pc := 74) C zf_X6_31 0 rfl rfl dX6_driveMinute_74 ?_
        exact g_iret (pc := 77) C hf E rfl (fun _ => 0) [0, 1, 2] (by decide) rfl rfl (Nat.le_refl _) (Nat.le_refl _) dX6_driveMinute_77
      · refine g_aload_n (pc := 12) C 0 dX6_driveMinute_12 rfl rfl ?_
        refine g_get (pc := 13) C zf_X6_9 0 rfl rfl dX6_driveMinute_13 ?_
        refine g_iload_n (pc := 16) C 2 dX6_driveMinute_16 rfl rfl ?_
        refine g_iald (pc := 17) C (N := 60) 1 rfl rfl (Nat.le_of_ble_eq_true rfl) dX6_driveMinute_17 hf (fun hf => ?_)
        refine g_if_ne (pc := 18) C (tgt := 67) dX6_driveMinute_18 (by decide) hf (fun hf => ?_) (fun hf => ?_)
        · exact H67 _ _ hf
        · refine g_iload_n (pc := 21) C 1 dX6_driveMinute_21 rfl rfl ?_
          refine g_aload_n (pc := 22) C 0 dX6_driveMinute_22 rfl rfl ?_
          refine g_get (pc := 23) C zf_X6_15 0 rfl rfl dX6_driveMinute_23 ?_
          refine g_iload_n (pc := 26) C 2 dX6_driveMinute_26 rfl rfl ?_
          refine g_iconst (pc := 27) C dX6_driveMinute_27 ?_
          refine g_iadd (pc := 28) C dX6_driveMinute_28 ?_
          refine g_iald (pc := 29) C (N := 61) 2 rfl rfl (Nat.le_of_ble_eq_true rfl) dX6_driveMinute_29 hf (fun hf => ?_)
          refine g_aload_n (pc := 30) C 0 dX6_driveMinute_30 rfl rfl ?_
          refine g_get (pc := 31) C zf_X6_15 0 rfl rfl dX6_driveMinute_31 ?_
          refine g_iload_n (pc := 34) C 2 dX6_driveMinute_34 rfl rfl ?_
          refine g_iald (pc := 35) C (N := 61) 2 rfl rfl (Nat.le_of_ble_eq_true rfl) dX6_driveMinute_35 hf (fun hf => ?_)
          refine g_isub (pc := 36) C dX6_driveMinute_36 ?_
          refine g_icmp_ge (pc := 37) C (tgt := 49) dX6_driveMinute_37 (by decide) hf (fun hf => ?_) (fun hf => ?_)
          · refine g_iload_n (pc := 49) C 1 dX6_driveMinute_49 rfl rfl ?_
            refine g_aload_n (pc := 50) C 0 dX6_driveMinute_50 rfl rfl ?_
            refine g_get (pc := 51) C zf_X6_15 0 rfl rfl dX6_driveMinute_51 ?_
            refine g_iload_n (pc := 54) C 2 dX6_driveMinute_54 rfl rfl ?_
            refine g_iconst (pc := 55) C dX6_driveMinute_55 ?_
            refine g_iadd (pc := 56) C dX6_driveMinute_56 ?_
            refine g_iald (pc := 57) C (N := 61) 2 rfl rfl (Nat.le_of_ble_eq_true rfl) dX6_driveMinute_57 hf (fun hf => ?_)
            refine g_aload_n (pc := 58) C 0 dX6_driveMinute_58 rfl rfl ?_
            refine g_get (pc := 59) C zf_X6_15 0 rfl rfl dX6_driveMinute_59 ?_
            refine g_iload_n (pc := 62) C 2 dX6_driveMinute_62 rfl rfl ?_
            refine g_iald (pc := 63) C (N := 61) 2 rfl rfl (Nat.le_of_ble_eq_true rfl) dX6_driveMinute_63 hf (fun hf => ?_)
            refine g_isub (pc := 64) C dX6_driveMinute_64 ?_
            refine g_isub (pc := 65) C dX6_driveMinute_65 ?_
            refine g_istore_n (pc := 66) C (lv' := [(2, .int (zI (v2 - ((rd_begin (v3 + 1).toNat) - (rd_begin v3.toNat))))), (0, .ref (aRd 0)), (3, .int (zI v3))]) dX6_driveMinute_66 rfl (Nat.le_of_ble_eq_true rfl) rfl ?_
            refine g_sub [0, 1, 2] [1, 0, 2] (by decide) rfl rfl rfl ?_
            exact H67 _ _ hf
          · refine g_aload_n (pc := 40) C 0 dX6_driveMinute_40 rfl rfl ?_
            refine g_get (pc := 41) C zf_X6_15 0 rfl rfl dX6_driveMinute_41 ?_
            refine g_iload_n (pc := 44) C 2 dX6_driveMinute_44 rfl rfl ?_
            refine g_iald (pc := 45) C (N := 61) 2 rfl rfl (Nat.le_of_ble_eq_true rfl) dX6_driveMinute_45 hf (fun hf => ?_)
            refine g_iload_n (pc := 46) C 1 dX6_driveMinute_46 rfl rfl ?_
            refine g_iadd (pc := 47) C dX6_driveMinute_47 ?_
            exact g_iret (pc := 48) C hf E rfl (fun _ => 0) [0, 1, 2] (by decide) rfl rfl (Nat.le_refl _) (Nat.le_refl _) dX6_driveMinute_48
  unfold fX6_driveMinute at hf
  refine g_iload_n (pc := 0) C 1 dX6_driveMinute_0 rfl rfl ?_
  refine g_istore_n (pc := 1) C (lv' := [(2, .int (zI v1)), (0, .ref (aRd 0)), (1, .int (zI v1))]) dX6_driveMinute_1 rfl (Nat.le_of_ble_eq_true rfl) rfl ?_
  refine g_iconst (pc := 2) C dX6_driveMinute_2 ?_
  refine g_istore_n (pc := 3) C (lv' := [(3, .int (zI 0)), (2, .int (zI v1)), (0, .ref (aRd 0)), (1, .int (zI v1))]) dX6_driveMinute_3 rfl (Nat.le_of_ble_eq_true rfl) rfl ?_
  refine g_sub [0, 1, 2] [2, 1, 0] (by decide) rfl rfl rfl ?_
  exact H4 _ _ _ hf
def oX6_runLength (ca : Nat → ClassId) (aRd : Nat → Nat) (rd_runFrom : Nat → Int) (rd_runTo : Nat → Int) (rd_acts : Int) (rd_total : Int) (rd_drive : Int) (rd_runs : Int) (Ro : Int) : (Nat → Nat) → va_W := fun _ => [((aRd 0), .inr (6, [.ref (aRd 1), .ref (aRd 2), .ref (aRd 3), .ref (aRd 4), .ref (aRd 5), .int (zI rd_acts), .int (zI rd_total), .int (zI rd_drive), .int (zI rd_runs)])), ((aRd 3), .inl (ca 0, 60, .inl (zA rd_runFrom))), ((aRd 4), .inl (ca 0, 60, .inl (zA rd_runTo)))]
def oiX6_runLength (Ro : Int) : Option Value := (some (.int (zI Ro)))
set_option maxRecDepth 100000 in
theorem kX6_runLength (l : Launch) (D : va_G) (ca : Nat → ClassId) (aRd : Nat → Nat) (rd_runFrom : Nat → Int) (rd_runTo : Nat → Int) (rd_acts : Int) (rd_total : Int) (rd_drive : Int) (rd_runs : Int) (v1 : Int) (Ro : Int)
    (hf : fX6_runLength v1 rd_runFrom rd_runTo = some Ro) : Zc l D ca yX6_runLength cX6_runLength 2 (some .int) { frames := 0, cells := 0, slots := 0, locals := 0 } [.ref (aRd 0), .int (zI v1)] [((aRd 0), .inr (6, [.ref (aRd 1), .ref (aRd 2), .ref (aRd 3), .ref (aRd 4), .ref (aRd 5), .int (zI rd_acts), .int (zI rd_total), .int (zI rd_drive), .int (zI rd_runs)])), ((aRd 3), .inl (ca 0, 60, .inl (zA rd_runFrom))), ((aRd 4), .inl (ca 0, 60, .inl (zA rd_runTo)))] (oiX6_runLength Ro) (oX6_runLength ca aRd rd_runFrom rd_runTo rd_acts rd_total rd_drive rd_runs Ro) := by
  refine ctr_of (lv := [(0, .ref (aRd 0)), (1, .int (zI v1))]) (by decide +kernel) (Nat.le_of_ble_eq_true rfl) rfl (fun Γ hl0 C E hnm => ?_)
  unfold fX6_runLength at hf
  refine g_aload_n (pc := 0) C 0 dX6_runLength_0 rfl rfl ?_
  refine g_get (pc := 1) C zf_X6_21 0 rfl rfl dX6_runLength_1 ?_
  refine g_iload_n (pc := 4) C 1 dX6_runLength_4 rfl rfl ?_
  refine g_iald (pc := 5) C (N := 60) 2 rfl rfl (Nat.le_of_ble_eq_true rfl) dX6_runLength_5 hf (fun hf => ?_)
  refine g_aload_n (pc := 6) C 0 dX6_runLength_6 rfl rfl ?_
  refine g_get (pc := 7) C zf_X6_18 0 rfl rfl dX6_runLength_7 ?_
  refine g_iload_n (pc := 10) C 1 dX6_runLength_10 rfl rfl ?_
  refine g_iald (pc := 11) C (N := 60) 1 rfl rfl (Nat.le_of_ble_eq_true rfl) dX6_runLength_11 hf (fun hf => ?_)
  refine g_isub (pc := 12) C dX6_runLength_12 ?_
  exact g_iret (pc := 13) C hf E rfl (fun _ => 0) [0, 1, 2] (by decide) rfl rfl (Nat.le_refl _) (Nat.le_refl _) dX6_runLength_13
def oX6_addRest (ca : Nat → ClassId) (aRd : Nat → Nat) (rd_kind : Nat → Int) (rd_begin : Nat → Int) (rd_acts : Int) (rd_total : Int) (rd_drive : Int) (Ro : (Nat → Int) × (Nat → Int) × (Nat → Int) × Int) : (Nat → Nat) → va_W := fun _ => [((aRd 0), .inr (6, [.ref (aRd 1), .ref (aRd 2), .ref (aRd 3), .ref (aRd 4), .ref (aRd 5), .int (zI rd_acts), .int (zI rd_total), .int (zI rd_drive), .int (zI (Ro.2.2.2))])), ((aRd 1), .inl (ca 0, 60, .inl (zA rd_kind))), ((aRd 2), .inl (ca 0, 61, .inl (zA rd_begin))), ((aRd 3), .inl (ca 0, 60, .inl (zA (Ro.1)))), ((aRd 4), .inl (ca 0, 60, .inl (zA (Ro.2.1)))), ((aRd 5), .inl (ca 0, 60, .inl (zA (Ro.2.2.1))))]
def oiX6_addRest (Ro : (Nat → Int) × (Nat → Int) × (Nat → Int) × Int) : Option Value := none
set_option maxRecDepth 100000 in
theorem kX6_addRest (l : Launch) (D : va_G) (ca : Nat → ClassId) (aRd : Nat → Nat) (rd_kind : Nat → Int) (rd_begin : Nat → Int) (rd_runFrom : Nat → Int) (rd_runTo : Nat → Int) (rd_runDrive : Nat → Int) (rd_acts : Int) (rd_total : Int) (rd_drive : Int) (rd_runs : Int) (v1 : Int) (Ro : (Nat → Int) × (Nat → Int) × (Nat → Int) × Int)
    (hf : fX6_addRest v1 rd_kind rd_begin rd_runFrom rd_runTo rd_runDrive rd_drive rd_runs = some Ro) : Zc l D ca yX6_addRest cX6_addRest 2 none { frames := 0, cells := 0, slots := 0, locals := 0 } [.ref (aRd 0), .int (zI v1)] [((aRd 0), .inr (6, [.ref (aRd 1), .ref (aRd 2), .ref (aRd 3), .ref (aRd 4), .ref (aRd 5), .int (zI rd_acts), .int (zI rd_total), .int (zI rd_drive), .int (zI rd_runs)])), ((aRd 1), .inl (ca 0, 60, .inl (zA rd_kind))), ((aRd 2), .inl (ca 0, 61, .inl (zA rd_begin))), ((aRd 3), .inl (ca 0, 60, .inl (zA rd_runFrom))), ((aRd 4), .inl (ca 0, 60, .inl (zA rd_runTo))), ((aRd 5), .inl (ca 0, 60, .inl (zA rd_runDrive)))] (oiX6_addRest Ro) (oX6_addRest ca aRd rd_kind rd_begin rd_acts rd_total rd_drive Ro) := by
  refine ctr_of (lv := [(0, .ref (aRd 0)), (1, .int (zI v1))]) (by decide +kernel) (Nat.le_of_ble_eq_true rfl) rfl (fun Γ hl0 C E hnm => ?_)
  have H54 : ∀ (rd_runFrom : Nat → Int) (rd_runTo : Nat → Int) (rd_runDrive : Nat → Int) (rd_runs : Int), fX6_addRest_54 v1 rd_begin rd_runFrom rd_runTo rd_runDrive rd_runs = some Ro → Zd D Γ 0 0 [((aRd 0), .inr (6, [.ref (aRd 1), .ref (aRd 2), .ref (aRd 3), .ref (aRd 4), .ref (aRd 5), .int (zI rd_acts), .int (zI rd_total), .int (zI rd_drive), .int (zI rd_runs)])), ((aRd 1), .inl (ca 0, 60, .inl (zA rd_kind))), ((aRd 2), .inl (ca 0, 61, .inl (zA rd_begin))), ((aRd 3), .inl (ca 0, 60, .inl (zA rd_runFrom))), ((aRd 4), .inl (ca 0, 60, .inl (zA rd_runTo))), ((aRd 5), .inl (ca 0, 60, .inl (zA rd_runDrive)))] 54 [(0, .ref (aRd 0)), (1, .int (zI v1))] [] := by
    intro rd_runFrom rd_runTo rd_runDrive rd_runs hf
    unfold fX6_addRest_54 at hf
    refine g_aload_n (pc := 54) C 0 dX6_addRest_54 rfl rfl ?_
    refine g_get (pc := 55) C zf_X6_21 0 rfl rfl dX6_addRest_55 ?_
    refine g_aload_n (pc := 58) C 0 dX6_addRest_58 rfl rfl ?_
    refine g_get (pc := 59) C zf_X6_37 0 rfl rfl dX6_addRest_59 ?_
    refine g_iconst (pc := 62) C dX6_addRest_62 ?_
    refine g_isub (pc := 63) C dX6_addRest_63 ?_
    refine g_aload_n (pc := 64) C 0 dX6_addRest_64 rfl rfl ?_
    refine g_get (pc := 65) C zf_X6_15 0 rfl rfl dX6_addRest_65 ?_
    refine g_iload_n (pc := 68) C 1 dX6_addRest_68 rfl rfl ?_
    refine g_iconst (pc := 69) C dX6_addRest_69 ?_
    refine g_iadd (pc := 70) C dX6_addRest_70 ?_
    refine g_iald (pc := 71) C (N := 61) 2 rfl rfl (Nat.le_of_ble_eq_true rfl) dX6_addRest_71 hf (fun hf => ?_)
    refine g_iast (pc := 72) C (N := 60) (ws' := [((aRd 0), .inr (6, [.ref (aRd 1), .ref (aRd 2), .ref (aRd 3), .ref (aRd 4), .ref (aRd 5), .int (zI rd_acts), .int (zI rd_total), .int (zI rd_drive), .int (zI rd_runs)])), ((aRd 1), .inl (ca 0, 60, .inl (zA rd_kind))), ((aRd 2), .inl (ca 0, 61, .inl (zA rd_begin))), ((aRd 3), .inl (ca 0, 60, .inl (zA rd_runFrom))), ((aRd 4), .inl (ca 0, 60, .inl (zA (zU rd_runTo (rd_runs - 1).toNat (rd_begin (v1 + 1).toNat))))), ((aRd 5), .inl (ca 0, 60, .inl (zA rd_runDrive)))]) 4 rfl rfl (Nat.le_of_ble_eq_true rfl) rfl dX6_addRest_72 hf (fun hf => ?_)
    exact g_vret (pc := 73) C hf E rfl (fun _ => 0) [0, 1, 2, 3, 4, 5] (by decide) rfl rfl (Nat.le_refl _) (Nat.le_refl _) dX6_addRest_73
  have H16 : ∀ (rd_runFrom : Nat → Int) (rd_runTo : Nat → Int) (rd_runDrive : Nat → Int) (rd_runs : Int), fX6_addRest_16 v1 rd_begin rd_runFrom rd_runTo rd_runDrive rd_drive rd_runs = some Ro → Zd D Γ 0 0 [((aRd 0), .inr (6, [.ref (aRd 1), .ref (aRd 2), .ref (aRd 3), .ref (aRd 4), .ref (aRd 5), .int (zI rd_acts), .int (zI rd_total), .int (zI rd_drive), .int (zI rd_runs)])), ((aRd 1), .inl (ca 0, 60, .inl (zA rd_kind))), ((aRd 2), .inl (ca 0, 61, .inl (zA rd_begin))), ((aRd 3), .inl (ca 0, 60, .inl (zA rd_runFrom))), ((aRd 4), .inl (ca 0, 60, .inl (zA rd_runTo))), ((aRd 5), .inl (ca 0, 60, .inl (zA rd_runDrive)))] 16 [(0, .ref (aRd 0)), (1, .int (zI v1))] [] := by
    intro rd_runFrom rd_runTo rd_runDrive rd_runs hf
    unfold fX6_addRest_16 at hf
    refine g_aload_n (pc := 16) C 0 dX6_addRest_16 rfl rfl ?_
    refine g_get (pc := 17) C zf_X6_18 0 rfl rfl dX6_addRest_17 ?_
    refine g_aload_n (pc := 20) C 0 dX6_addRest_20 rfl rfl ?_
    refine g_get (pc := 21) C zf_X6_37 0 rfl rfl dX6_addRest_21 ?_
    refine g_aload_n (pc := 24) C 0 dX6_addRest_24 rfl rfl ?_
    refine g_get (pc := 25) C zf_X6_15 0 rfl rfl dX6_addRest_25 ?_
    refine g_iload_n (pc := 28) C 1 dX6_addRest_28 rfl rfl ?_
    refine g_iald (pc := 29) C (N := 61) 2 rfl rfl (Nat.le_of_ble_eq_true rfl) dX6_addRest_29 hf (fun hf => ?_)
    refine g_iast (pc := 30) C (N := 60) (ws' := [((aRd 0), .inr (6, [.ref (aRd 1), .ref (aRd 2), .ref (aRd 3), .ref (aRd 4), .ref (aRd 5), .int (zI rd_acts), .int (zI rd_total), .int (zI rd_drive), .int (zI rd_runs)])), ((aRd 1), .inl (ca 0, 60, .inl (zA rd_kind))), ((aRd 2), .inl (ca 0, 61, .inl (zA rd_begin))), ((aRd 3), .inl (ca 0, 60, .inl (zA (zU rd_runFrom rd_runs.toNat (rd_begin v1.toNat))))), ((aRd 4), .inl (ca 0, 60, .inl (zA rd_runTo))), ((aRd 5), .inl (ca 0, 60, .inl (zA rd_runDrive)))]) 3 rfl rfl (Nat.le_of_ble_eq_true rfl) rfl dX6_addRest_30 hf (fun hf => ?_)
    refine g_aload_n (pc := 31) C 0 dX6_addRest_31 rfl rfl ?_
    refine g_get (pc := 32) C zf_X6_24 0 rfl rfl dX6_addRest_32 ?_
    refine g_aload_n (pc := 35) C 0 dX6_addRest_35 rfl rfl ?_
    refine g_get (pc := 36) C zf_X6_37 0 rfl rfl dX6_addRest_36 ?_
    refine g_aload_n (pc := 39) C 0 dX6_addRest_39 rfl rfl ?_
    refine g_get (pc := 40) C zf_X6_34 0 rfl rfl dX6_addRest_40 ?_
    refine g_iast (pc := 43) C (N := 60) (ws' := [((aRd 0), .inr (6, [.ref (aRd 1), .ref (aRd 2), .ref (aRd 3), .ref (aRd 4), .ref (aRd 5), .int (zI rd_acts), .int (zI rd_total), .int (zI rd_drive), .int (zI rd_runs)])), ((aRd 1), .inl (ca 0, 60, .inl (zA rd_kind))), ((aRd 2), .inl (ca 0, 61, .inl (zA rd_begin))), ((aRd 3), .inl (ca 0, 60, .inl (zA (zU rd_runFrom rd_runs.toNat (rd_begin v1.toNat))))), ((aRd 4), .inl (ca 0, 60, .inl (zA rd_runTo))), ((aRd 5), .inl (ca 0, 60, .inl (zA (zU rd_runDrive rd_runs.toNat rd_drive))))]) 5 rfl rfl (Nat.le_of_ble_eq_true rfl) rfl dX6_addRest_43 hf (fun hf => ?_)
    refine g_aload_n (pc := 44) C 0 dX6_addRest_44 rfl rfl ?_
    refine g_dup (pc := 45) C dX6_addRest_45 rfl ?_
    refine g_get (pc := 46) C zf_X6_37 0 rfl rfl dX6_addRest_46 ?_
    refine g_iconst (pc := 49) C dX6_addRest_49 ?_
    refine g_iadd (pc := 50) C dX6_addRest_50 ?_
    refine g_put (pc := 51) C zf_X6_37 tyX6 tyX6_ok nmX6 (v := .int (zI (rd_runs + 1))) (ws' := [((aRd 0), .inr (6, [.ref (aRd 1), .ref (aRd 2), .ref (aRd 3), .ref (aRd 4), .ref (aRd 5), .int (zI rd_acts), .int (zI rd_total), .int (zI rd_drive), .int (zI (rd_runs + 1))])), ((aRd 1), .inl (ca 0, 60, .inl (zA rd_kind))), ((aRd 2), .inl (ca 0, 61, .inl (zA rd_begin))), ((aRd 3), .inl (ca 0, 60, .inl (zA (zU rd_runFrom rd_runs.toNat (rd_begin v1.toNat))))), ((aRd 4), .inl (ca 0, 60, .inl (zA rd_runTo))), ((aRd 5), .inl (ca 0, 60, .inl (zA (zU rd_runDrive rd_runs.toNat rd_drive))))]) 0 rfl rfl rfl rfl rfl (Nat.le_of_ble_eq_true rfl) rfl rfl dX6_addRest_51 ?_
    exact H54 _ _ _ _ hf
  unfold fX6_addRest at hf
  refine g_iload_n (pc := 0) C 1 dX6_addRest_0 rfl rfl ?_
  refine g_if_eq (pc := 1) C (tgt := 16) dX6_addRest_1 (by decide) hf (fun hf => ?_) (fun hf => ?_)
  · exact H16 _ _ _ _ hf
  · refine g_aload_n (pc := 4) C 0 dX6_addRest_4 rfl rfl ?_
    refine g_get (pc := 5) C zf_X6_9 0 rfl rfl dX6_addRest_5 ?_
    refine g_iload_n (pc := 8) C 1 dX6_addRest_8 rfl rfl ?_
    refine g_iconst (pc := 9) C dX6_addRest_9 ?_
    refine g_isub (pc := 10) C dX6_addRest_10 ?_
    refine g_iald (pc := 11) C (N := 60) 1 rfl rfl (Nat.le_of_ble_eq_true rfl) dX6_addRest_11 hf (fun hf => ?_)
    refine g_iconst (pc := 12) C dX6_addRest_12 ?_
    refine g_icmp_eqr (pc := 13) C (tgt := 54) dX6_addRest_13 (by decide) (by decide) hf (fun hf => ?_) (fun hf => ?_)
    · exact H54 _ _ _ _ hf
    · exact H16 _ _ _ _ hf
def oX6_driveAhead (ca : Nat → ClassId) (aRd : Nat → Nat) (rd_kind : Nat → Int) (rd_begin : Nat → Int) (rd_acts : Int) (rd_total : Int) (rd_drive : Int) (rd_runs : Int) (Ro : Int) : (Nat → Nat) → va_W := fun _ => [((aRd 0), .inr (6, [.ref (aRd 1), .ref (aRd 2), .ref (aRd 3), .ref (aRd 4), .ref (aRd 5), .int (zI rd_acts), .int (zI rd_total), .int (zI rd_drive), .int (zI rd_runs)])), ((aRd 1), .inl (ca 0, 60, .inl (zA rd_kind))), ((aRd 2), .inl (ca 0, 61, .inl (zA rd_begin)))]
def oiX6_driveAhead (Ro : Int) : Option Value := (some (.int (zI Ro)))
set_option maxRecDepth 100000 in
theorem kX6_driveAhead (l : Launch) (D : va_G) (ca : Nat → ClassId) (aRd : Nat → Nat) (rd_kind : Nat → Int) (rd_begin : Nat → Int) (rd_acts : Int) (rd_total : Int) (rd_drive : Int) (rd_runs : Int) (v1 : Int) (Ro : Int)
    (hf : fX6_driveAhead v1 rd_kind rd_begin rd_acts = some Ro) : Zc l D ca yX6_driveAhead cX6_driveAhead 4 (some .int) { frames := 1, cells := 0, slots := 0, locals := 14 } [.ref (aRd 0), .int (zI v1)] [((aRd 0), .inr (6, [.ref (aRd 1), .ref (aRd 2), .ref (aRd 3), .ref (aRd 4), .ref (aRd 5), .int (zI rd_acts), .int (zI rd_total), .int (zI rd_drive), .int (zI rd_runs)])), ((aRd 1), .inl (ca 0, 60, .inl (zA rd_kind))), ((aRd 2), .inl (ca 0, 61, .inl (zA rd_begin)))] (oiX6_driveAhead Ro) (oX6_driveAhead ca aRd rd_kind rd_begin rd_acts rd_total rd_drive rd_runs Ro) := by
  refine ctr_of (lv := [(0, .ref (aRd 0)), (1, .int (zI v1))]) (by decide +kernel) (Nat.le_of_ble_eq_true rfl) rfl (fun Γ hl0 C E hnm => ?_)
  have H59 : ∀ (v2 : Int), fX6_driveAhead_59 v2 = some Ro → Zd D Γ 0 0 [((aRd 0), .inr (6, [.ref (aRd 1), .ref (aRd 2), .ref (aRd 3), .ref (aRd 4), .ref (aRd 5), .int (zI rd_acts), .int (zI rd_total), .int (zI rd_drive), .int (zI rd_runs)])), ((aRd 1), .inl (ca 0, 60, .inl (zA rd_kind))), ((aRd 2), .inl (ca 0, 61, .inl (zA rd_begin)))] 59 [(2, .int (zI v2))] [] := by
    intro v2 hf
    unfold fX6_driveAhead_59 at hf
    refine g_iload_n (pc := 59) C 0 dX6_driveAhead_59 rfl rfl ?_
    exact g_iret (pc := 60) C hf E rfl (fun _ => 0) [0, 1, 2] (by decide) rfl rfl (Nat.le_refl _) (Nat.le_refl _) dX6_driveAhead_60
  have H4 : ∀  (n4 : Nat) (v2 : Int) (v3 : Int), zlp (fX6_driveAhead_4 v1 rd_kind rd_begin rd_acts) n4 (v2, v3) = some Ro → Zd D Γ 0 0 [((aRd 0), .inr (6, [.ref (aRd 1), .ref (aRd 2), .ref (aRd 3), .ref (aRd 4), .ref (aRd 5), .int (zI rd_acts), .int (zI rd_total), .int (zI rd_drive), .int (zI rd_runs)])), ((aRd 1), .inl (ca 0, 60, .inl (zA rd_kind))), ((aRd 2), .inl (ca 0, 61, .inl (zA rd_begin)))] 4 [(0, .ref (aRd 0)), (1, .int (zI v1)), (2, .int (zI v2)), (3, .int (zI v3))] [] := by
    intro n4
    induction n4 with
    | zero =>
      intro v2 v3 hf
      exact zno hf
    | succ n4 ih4 =>
      have H53 : ∀ (v2 : Int) (v3 : Int), fX6_driveAhead_53 (zlp (fX6_driveAhead_4 v1 rd_kind rd_begin rd_acts) n4) v2 v3 = some Ro → Zd D Γ 0 0 [((aRd 0), .inr (6, [.ref (aRd 1), .ref (aRd 2), .ref (aRd 3), .ref (aRd 4), .ref (aRd 5), .int (zI rd_acts), .int (zI rd_total), .int (zI rd_drive), .int (zI rd_runs)])), ((aRd 1), .inl (ca 0, 60, .inl (zA rd_kind))), ((aRd 2), .inl (ca 0, 61, .inl (zA rd_begin)))] 53 [(0, .ref (aRd 0)), (1, .int (zI v1)), (2, .int (zI v2)), (3, .int (zI v3))] [] := by
        intro v2 v3 hf
        unfold fX6_driveAhead_53 at hf
        refine g_iinc (pc := 53) C 3 (lv' := [(3, .int (zI (v3 + 1))), (0, .ref (aRd 0)), (1, .int (zI v1)), (2, .int (zI v2))]) dX6_driveAhead_53 rfl (Nat.le_of_ble_eq_true rfl) rfl ?_
        refine g_goto (pc := 56) C (tgt := 4) dX6_driveAhead_56 (by decide) ?_
        refine g_sub [0, 1, 2] [1, 2, 3, 0] (by decide) rfl rfl rfl ?_
        exact ih4 _ _ hf
      intro v2 v3 hf
      rw [zlp_s] at hf
      unfold fX6_driveAhead_4 at hf
      dsimp only at hf
      refine g_iload_n (pc := 4) C 3 dX6_driveAhead_4 rfl rfl ?_
      refine g_aload_n (pc := 5) C 0 dX6_driveAhead_5 rfl rfl ?_
      refine g_get (pc := 6) C zf_X6_27 0 rfl rfl dX6_driveAhead_6 ?_
      refine g_icmp_ge (pc := 9) C (tgt := 59) dX6_driveAhead_9 (by decide) hf (fun hf => ?_) (fun hf => ?_)
      · refine g_sub [0, 1, 2] [2] (by decide) rfl rfl rfl ?_
        exact H59 _ hf
      · refine g_aload_n (pc := 12) C 0 dX6_driveAhead_12 rfl rfl ?_
        refine g_get (pc := 13) C zf_X6_15 0 rfl rfl dX6_driveAhead_13 ?_
        refine g_iload_n (pc := 16) C 3 dX6_driveAhead_16 rfl rfl ?_
        refine g_iald (pc := 17) C (N := 61) 2 rfl rfl (Nat.le_of_ble_eq_true rfl) dX6_driveAhead_17 hf (fun hf => ?_)
        refine g_iload_n (pc := 18) C 1 dX6_driveAhead_18 rfl rfl ?_
        refine g_icmp_ge (pc := 19) C (tgt := 59) dX6_driveAhead_19 (by decide) hf (fun hf => ?_) (fun hf => ?_)
        · refine g_sub [0, 1, 2] [2] (by decide) rfl rfl rfl ?_
          exact H59 _ hf
        · refine g_aload_n (pc := 22) C 0 dX6_driveAhead_22 rfl rfl ?_
          refine g_get (pc := 23) C zf_X6_9 0 rfl rfl dX6_driveAhead_23 ?_
          refine g_iload_n (pc := 26) C 3 dX6_driveAhead_26 rfl rfl ?_
          refine g_iald (pc := 27) C (N := 60) 1 rfl rfl (Nat.le_of_ble_eq_true rfl) dX6_driveAhead_27 hf (fun hf => ?_)
          refine g_if_ne (pc := 28) C (tgt := 53) dX6_driveAhead_28 (by decide) hf (fun hf => ?_) (fun hf => ?_)
          · exact H53 _ _ hf
          · refine g_iload_n (pc := 31) C 2 dX6_driveAhead_31 rfl rfl ?_
            refine g_iload_n (pc := 32) C 1 dX6_driveAhead_32 rfl rfl ?_
            refine g_aload_n (pc := 33) C 0 dX6_driveAhead_33 rfl rfl ?_
            refine g_get (pc := 34) C zf_X6_15 0 rfl rfl dX6_driveAhead_34 ?_
            refine g_iload_n (pc := 37) C 3 dX6_driveAhead_37 rfl rfl ?_
            refine g_iconst (pc := 38) C dX6_driveAhead_38 ?_
            refine g_iadd (pc := 39) C dX6_driveAhead_39 ?_
            refine g_iald (pc := 40) C (N := 61) 2 rfl rfl (Nat.le_of_ble_eq_true rfl) dX6_driveAhead_40 hf (fun hf => ?_)
            refine g_mmin (pc := 41) C wml_RX6_68 (Nat.le_of_ble_eq_true rfl) (Nat.le_of_ble_eq_true rfl) (Nat.zero_le _) (Nat.zero_le _) dX6_driveAhead_41 hf (fun hf => ?_)
            refine g_aload_n (pc := 44) C 0 dX6_driveAhead_44 rfl rfl ?_
            refine g_get (pc := 45) C zf_X6_15 0 rfl rfl dX6_driveAhead_45 ?_
            refine g_iload_n (pc := 48) C 3 dX6_driveAhead_48 rfl rfl ?_
            refine g_iald (pc := 49) C (N := 61) 2 rfl rfl (Nat.le_of_ble_eq_true rfl) dX6_driveAhead_49 hf (fun hf => ?_)
            refine g_isub (pc := 50) C dX6_driveAhead_50 ?_
            refine g_iadd (pc := 51) C dX6_driveAhead_51 ?_
            refine g_istore_n (pc := 52) C (lv' := [(2, .int (zI (v2 + ((min v1 (rd_begin (v3 + 1).toNat)) - (rd_begin v3.toNat))))), (0, .ref (aRd 0)), (1, .int (zI v1)), (3, .int (zI v3))]) dX6_driveAhead_52 rfl (Nat.le_of_ble_eq_true rfl) rfl ?_
            refine g_sub [0, 1, 2] [1, 2, 0, 3] (by decide) rfl rfl rfl ?_
            exact H53 _ _ hf
  unfold fX6_driveAhead at hf
  refine g_iconst (pc := 0) C dX6_driveAhead_0 ?_
  refine g_istore_n (pc := 1) C (lv' := [(2, .int (zI 0)), (0, .ref (aRd 0)), (1, .int (zI v1))]) dX6_driveAhead_1 rfl (Nat.le_of_ble_eq_true rfl) rfl ?_
  refine g_iconst (pc := 2) C dX6_driveAhead_2 ?_
  refine g_istore_n (pc := 3) C (lv' := [(3, .int (zI 0)), (2, .int (zI 0)), (0, .ref (aRd 0)), (1, .int (zI v1))]) dX6_driveAhead_3 rfl (Nat.le_of_ble_eq_true rfl) rfl ?_
  refine g_sub [0, 1, 2] [2, 3, 1, 0] (by decide) rfl rfl rfl ?_
  exact H4 _ _ _ hf
def oX6_endsWithRun (ca : Nat → ClassId) (aRd : Nat → Nat) (rd_runTo : Nat → Int) (rd_acts : Int) (rd_total : Int) (rd_drive : Int) (rd_runs : Int) (Ro : Int) : (Nat → Nat) → va_W := fun _ => [((aRd 0), .inr (6, [.ref (aRd 1), .ref (aRd 2), .ref (aRd 3), .ref (aRd 4), .ref (aRd 5), .int (zI rd_acts), .int (zI rd_total), .int (zI rd_drive), .int (zI rd_runs)])), ((aRd 4), .inl (ca 0, 60, .inl (zA rd_runTo)))]
def oiX6_endsWithRun (Ro : Int) : Option Value := (some (.int (zI Ro)))
set_option maxRecDepth 100000 in
theorem kX6_endsWithRun (l : Launch) (D : va_G) (ca : Nat → ClassId) (aRd : Nat → Nat) (rd_runTo : Nat → Int) (rd_acts : Int) (rd_total : Int) (rd_drive : Int) (rd_runs : Int)  (Ro : Int)
    (hf : fX6_endsWithRun rd_runTo rd_total rd_runs = some Ro) : Zc l D ca yX6_endsWithRun cX6_endsWithRun 1 (some .boolean) { frames := 0, cells := 0, slots := 0, locals := 0 } [.ref (aRd 0)] [((aRd 0), .inr (6, [.ref (aRd 1), .ref (aRd 2), .ref (aRd 3), .ref (aRd 4), .ref (aRd 5), .int (zI rd_acts), .int (zI rd_total), .int (zI rd_drive), .int (zI rd_runs)])), ((aRd 4), .inl (ca 0, 60, .inl (zA rd_runTo)))] (oiX6_endsWithRun Ro) (oX6_endsWithRun ca aRd rd_runTo rd_acts rd_total rd_drive rd_runs Ro) := by
  refine ctr_of (lv := [(0, .ref (aRd 0))]) (by decide +kernel) (Nat.le_of_ble_eq_true rfl) rfl (fun Γ hl0 C E hnm => ?_)
  have H29 : fX6_endsWithRun_29 = some Ro → Zd D Γ 0 0 [((aRd 0), .inr (6, [.ref (aRd 1), .ref (aRd 2), .ref (aRd 3), .ref (aRd 4), .ref (aRd 5), .int (zI rd_acts), .int (zI rd_total), .int (zI rd_drive), .int (zI rd_runs)])), ((aRd 4), .inl (ca 0, 60, .inl (zA rd_runTo)))] 29 [] [] := by
    intro  hf
    unfold fX6_endsWithRun_29 at hf
    refine g_iconst (pc := 29) C dX6_endsWithRun_29 ?_
    exact g_zret (pc := 30) C hf E (by decide) rfl (fun _ => 0) [0, 1] (by decide) rfl rfl (Nat.le_refl _) (Nat.le_refl _) dX6_endsWithRun_30
  unfold fX6_endsWithRun at hf
  refine g_aload_n (pc := 0) C 0 dX6_endsWithRun_0 rfl rfl ?_
  refine g_get (pc := 1) C zf_X6_37 0 rfl rfl dX6_endsWithRun_1 ?_
  refine g_if_le (pc := 4) C (tgt := 29) dX6_endsWithRun_4 (by decide) hf (fun hf => ?_) (fun hf => ?_)
  · refine g_sub [0, 1] [] (by decide) rfl rfl rfl ?_
    exact H29  hf
  · refine g_aload_n (pc := 7) C 0 dX6_endsWithRun_7 rfl rfl ?_
    refine g_get (pc := 8) C zf_X6_21 0 rfl rfl dX6_endsWithRun_8 ?_
    refine g_aload_n (pc := 11) C 0 dX6_endsWithRun_11 rfl rfl ?_
    refine g_get (pc := 12) C zf_X6_37 0 rfl rfl dX6_endsWithRun_12 ?_
    refine g_iconst (pc := 15) C dX6_endsWithRun_15 ?_
    refine g_isub (pc := 16) C dX6_endsWithRun_16 ?_
    refine g_iald (pc := 17) C (N := 60) 1 rfl rfl (Nat.le_of_ble_eq_true rfl) dX6_endsWithRun_17 hf (fun hf => ?_)
    refine g_aload_n (pc := 18) C 0 dX6_endsWithRun_18 rfl rfl ?_
    refine g_get (pc := 19) C zf_X6_31 0 rfl rfl dX6_endsWithRun_19 ?_
    refine g_icmp_ne (pc := 22) C (tgt := 29) dX6_endsWithRun_22 (by decide) hf (fun hf => ?_) (fun hf => ?_)
    · refine g_sub [0, 1] [] (by decide) rfl rfl rfl ?_
      exact H29  hf
    · refine g_iconst (pc := 25) C dX6_endsWithRun_25 ?_
      refine g_goto (pc := 26) C (tgt := 30) dX6_endsWithRun_26 (by decide) ?_
      exact g_zret (pc := 30) C hf E (by decide) rfl (fun _ => 0) [0, 1] (by decide) rfl rfl (Nat.le_refl _) (Nat.le_refl _) dX6_endsWithRun_30
def oX6_longestRun (ca : Nat → ClassId) (aRd : Nat → Nat) (rd_runFrom : Nat → Int) (rd_runTo : Nat → Int) (rd_acts : Int) (rd_total : Int) (rd_drive : Int) (rd_runs : Int) (Ro : Int) : (Nat → Nat) → va_W := fun _ => [((aRd 0), .inr (6, [.ref (aRd 1), .ref (aRd 2), .ref (aRd 3), .ref (aRd 4), .ref (aRd 5), .int (zI rd_acts), .int (zI rd_total), .int (zI rd_drive), .int (zI rd_runs)])), ((aRd 3), .inl (ca 0, 60, .inl (zA rd_runFrom))), ((aRd 4), .inl (ca 0, 60, .inl (zA rd_runTo)))]
def oiX6_longestRun (Ro : Int) : Option Value := (some (.int (zI Ro)))
set_option maxRecDepth 100000 in
theorem kX6_longestRun (l : Launch) (D : va_G) (ca : Nat → ClassId) (aRd : Nat → Nat) (rd_runFrom : Nat → Int) (rd_runTo : Nat → Int) (rd_acts : Int) (rd_total : Int) (rd_drive : Int) (rd_runs : Int)  (Ro : Int)
    (hf : fX6_longestRun rd_runFrom rd_runTo rd_runs = some Ro) : Zc l D ca yX6_longestRun cX6_longestRun 3 (some .int) { frames := 1, cells := 0, slots := 0, locals := 21 } [.ref (aRd 0)] [((aRd 0), .inr (6, [.ref (aRd 1), .ref (aRd 2), .ref (aRd 3), .ref (aRd 4), .ref (aRd 5), .int (zI rd_acts), .int (zI rd_total), .int (zI rd_drive), .int (zI rd_runs)])), ((aRd 3), .inl (ca 0, 60, .inl (zA rd_runFrom))), ((aRd 4), .inl (ca 0, 60, .inl (zA rd_runTo)))] (oiX6_longestRun Ro) (oX6_longestRun ca aRd rd_runFrom rd_runTo rd_acts rd_total rd_drive rd_runs Ro) := by
  refine ctr_of (lv := [(0, .ref (aRd 0))]) (by decide +kernel) (Nat.le_of_ble_eq_true rfl) rfl (fun Γ hl0 C E hnm => ?_)
  have H4 : ∀  (n4 : Nat) (v1 : Int) (v2 : Int), zlp (fX6_longestRun_4 rd_runFrom rd_runTo rd_runs) n4 (v1, v2) = some Ro → Zd D Γ 0 0 [((aRd 0), .inr (6, [.ref (aRd 1), .ref (aRd 2), .ref (aRd 3), .ref (aRd 4), .ref (aRd 5), .int (zI rd_acts), .int (zI rd_total), .int (zI rd_drive), .int (zI rd_runs)])), ((aRd 3), .inl (ca 0, 60, .inl (zA rd_runFrom))), ((aRd 4), .inl (ca 0, 60, .inl (zA rd_runTo)))] 4 [(0, .ref (aRd 0)), (1, .int (zI v1)), (2, .int (zI v2))] [] := by
    intro n4
    induction n4 with
    | zero =>
      intro v1 v2 hf
      exact zno hf
    | succ n4 ih4 =>
      intro v1 v2 hf
      rw [zlp_s] at hf
      unfold fX6_longestRun_4 at hf
      dsimp only at hf
      refine g_iload_n (pc := 4) C 2 dX6_longestRun_4 rfl rfl ?_
      refine g_aload_n (pc := 5) C 0 dX6_longestRun_5 rfl rfl ?_
      refine g_get (pc := 6) C zf_X6_37 0 rfl rfl dX6_longestRun_6 ?_
      refine g_icmp_ge (pc := 9) C (tgt := 28) dX6_longestRun_9 (by decide) hf (fun hf => ?_) (fun hf => ?_)
      · refine g_iload_n (pc := 28) C 1 dX6_longestRun_28 rfl rfl ?_
        exact g_iret (pc := 29) C hf E rfl (fun _ => 0) [0, 1, 2] (by decide) rfl rfl (Nat.le_refl _) (Nat.le_refl _) dX6_longestRun_29
      · refine g_iload_n (pc := 12) C 1 dX6_longestRun_12 rfl rfl ?_
        refine g_aload_n (pc := 13) C 0 dX6_longestRun_13 rfl rfl ?_
        refine g_iload_n (pc := 14) C 2 dX6_longestRun_14 rfl rfl ?_
        obtain ⟨r_15, hc_15, hf⟩ := Option.bind_eq_some_iff.mp hf
        refine g_callV (pc := 15) C hl0 (wr := []) (k' := 0) (n' := 0) (ws' := fun _ => [((aRd 0), .inr (6, [.ref (aRd 1), .ref (aRd 2), .ref (aRd 3), .ref (aRd 4), .ref (aRd 5), .int (zI rd_acts), .int (zI rd_total), .int (zI rd_drive), .int (zI rd_runs)])), ((aRd 3), .inl (ca 0, 60, .inl (zA rd_runFrom))), ((aRd 4), .inl (ca 0, 60, .inl (zA rd_runTo)))]) (st' := [.int (zI r_15), .int (zI v1)]) (kX6_runLength l D ca aRd rd_runFrom rd_runTo rd_acts rd_total rd_drive rd_runs v2 r_15 hc_15) wml_RX6_58 wim_X6_runLength wse_X6_runLength win_RX6 wco_X6_runLength (nA := 1) rfl (by decide +kernel)  ⟨(Nat.le_of_ble_eq_true rfl), (Nat.le_of_ble_eq_true rfl)⟩ (Nat.le_refl _) (Nat.le_refl _) rfl (Nat.le_of_ble_eq_true rfl) dX6_longestRun_15 0 6 rfl rfl rfl [0, 1, 2] [] rfl rfl rfl (by decide) (by decide) (by decide) rfl rfl (fun _ => rfl) rfl (fun _ => ?_)
        refine g_mmax (pc := 18) C wml_RX6_62 (Nat.le_of_ble_eq_true rfl) (Nat.le_of_ble_eq_true rfl) (Nat.zero_le _) (Nat.zero_le _) dX6_longestRun_18 hf (fun hf => ?_)
        refine g_istore_n (pc := 21) C (lv' := [(1, .int (zI (max v1 r_15))), (0, .ref (aRd 0)), (2, .int (zI v2))]) dX6_longestRun_21 rfl (Nat.le_of_ble_eq_true rfl) rfl ?_
        refine g_iinc (pc := 22) C 2 (lv' := [(2, .int (zI (v2 + 1))), (1, .int (zI (max v1 r_15))), (0, .ref (aRd 0))]) dX6_longestRun_22 rfl (Nat.le_of_ble_eq_true rfl) rfl ?_
        refine g_goto (pc := 25) C (tgt := 4) dX6_longestRun_25 (by decide) ?_
        refine g_sub [0, 1, 2] [2, 1, 0] (by decide) rfl rfl rfl ?_
        exact ih4 _ _ hf
  unfold fX6_longestRun at hf
  refine g_iconst (pc := 0) C dX6_longestRun_0 ?_
  refine g_istore_n (pc := 1) C (lv' := [(1, .int (zI 0)), (0, .ref (aRd 0))]) dX6_longestRun_1 rfl (Nat.le_of_ble_eq_true rfl) rfl ?_
  refine g_iconst (pc := 2) C dX6_longestRun_2 ?_
  refine g_istore_n (pc := 3) C (lv' := [(2, .int (zI 0)), (1, .int (zI 0)), (0, .ref (aRd 0))]) dX6_longestRun_3 rfl (Nat.le_of_ble_eq_true rfl) rfl ?_
  refine g_sub [0, 1, 2] [2, 1, 0] (by decide) rfl rfl rfl ?_
  exact H4 _ _ _ hf
def oX6_read (ca : Nat → ClassId) (aCd : Nat → Nat) (aRd : Nat → Nat) (cd_kind : Nat → Int) (cd_begin : Nat → Int) (cd_acts : Int) (Ro : (Nat → Int) × (Nat → Int) × (Nat → Int) × (Nat → Int) × (Nat → Int) × Int × Int × Int × Int) : (Nat → Nat) → va_W := fun _ => [((aCd 0), .inr (1, [.ref (aCd 1), .ref (aCd 2), .ref (aCd 3), .int (zI cd_acts)])), ((aCd 1), .inl (ca 0, 60, .inl (zA cd_kind))), ((aCd 3), .inl (ca 0, 61, .inl (zA cd_begin))), ((aRd 0), .inr (6, [.ref (aRd 1), .ref (aRd 2), .ref (aRd 3), .ref (aRd 4), .ref (aRd 5), .int (zI (Ro.2.2.2.2.2.1)), .int (zI (Ro.2.2.2.2.2.2.1)), .int (zI (Ro.2.2.2.2.2.2.2.1)), .int (zI (Ro.2.2.2.2.2.2.2.2))])), ((aRd 1), .inl (ca 0, 60, .inl (zA (Ro.1)))), ((aRd 2), .inl (ca 0, 61, .inl (zA (Ro.2.1)))), ((aRd 3), .inl (ca 0, 60, .inl (zA (Ro.2.2.1)))), ((aRd 4), .inl (ca 0, 60, .inl (zA (Ro.2.2.2.1)))), ((aRd 5), .inl (ca 0, 60, .inl (zA (Ro.2.2.2.2.1))))]
def oiX6_read (Ro : (Nat → Int) × (Nat → Int) × (Nat → Int) × (Nat → Int) × (Nat → Int) × Int × Int × Int × Int) : Option Value := none
set_option maxRecDepth 100000 in
theorem kX6_read (l : Launch) (D : va_G) (ca : Nat → ClassId) (aCd : Nat → Nat) (aRd : Nat → Nat) (cd_kind : Nat → Int) (cd_begin : Nat → Int) (cd_acts : Int) (rd_kind : Nat → Int) (rd_begin : Nat → Int) (rd_runFrom : Nat → Int) (rd_runTo : Nat → Int) (rd_runDrive : Nat → Int) (rd_acts : Int) (rd_total : Int) (rd_drive : Int) (rd_runs : Int) (v2 : Int) (Ro : (Nat → Int) × (Nat → Int) × (Nat → Int) × (Nat → Int) × (Nat → Int) × Int × Int × Int × Int)
    (hf : fX6_read v2 cd_kind cd_begin cd_acts rd_kind rd_begin rd_runFrom rd_runTo rd_runDrive rd_acts rd_total rd_drive rd_runs = some Ro) : Zc l D ca yX6_read cX6_read 4 none { frames := 3, cells := 0, slots := 0, locals := 65 } [.ref (aRd 0), .ref (aCd 0), .int (zI v2)] [((aCd 0), .inr (1, [.ref (aCd 1), .ref (aCd 2), .ref (aCd 3), .int (zI cd_acts)])), ((aCd 1), .inl (ca 0, 60, .inl (zA cd_kind))), ((aCd 3), .inl (ca 0, 61, .inl (zA cd_begin))), ((aRd 0), .inr (6, [.ref (aRd 1), .ref (aRd 2), .ref (aRd 3), .ref (aRd 4), .ref (aRd 5), .int (zI rd_acts), .int (zI rd_total), .int (zI rd_drive), .int (zI rd_runs)])), ((aRd 1), .inl (ca 0, 60, .inl (zA rd_kind))), ((aRd 2), .inl (ca 0, 61, .inl (zA rd_begin))), ((aRd 3), .inl (ca 0, 60, .inl (zA rd_runFrom))), ((aRd 4), .inl (ca 0, 60, .inl (zA rd_runTo))), ((aRd 5), .inl (ca 0, 60, .inl (zA rd_runDrive)))] (oiX6_read Ro) (oX6_read ca aCd aRd cd_kind cd_begin cd_acts Ro) := by
  refine ctr_of (lv := [(0, .ref (aRd 0)), (1, .ref (aCd 0)), (2, .int (zI v2))]) (by decide +kernel) (Nat.le_of_ble_eq_true rfl) rfl (fun Γ hl0 C E hnm => ?_)
  have H52 : ∀ (rd_begin : Nat → Int) (rd_acts : Int) (rd_total : Int) (n52 : Nat) (v3 : Int) (rd_kind : Nat → Int) (rd_runFrom : Nat → Int) (rd_runTo : Nat → Int) (rd_runDrive : Nat → Int) (rd_drive : Int) (rd_runs : Int), zlp (fX6_read_52 v2 cd_kind cd_acts rd_begin rd_acts rd_total) n52 (v3, rd_kind, rd_runFrom, rd_runTo, rd_runDrive, rd_drive, rd_runs) = some Ro → Zd D Γ 0 0 [((aCd 0), .inr (1, [.ref (aCd 1), .ref (aCd 2), .ref (aCd 3), .int (zI cd_acts)])), ((aCd 1), .inl (ca 0, 60, .inl (zA cd_kind))), ((aCd 3), .inl (ca 0, 61, .inl (zA cd_begin))), ((aRd 0), .inr (6, [.ref (aRd 1), .ref (aRd 2), .ref (aRd 3), .ref (aRd 4), .ref (aRd 5), .int (zI rd_acts), .int (zI rd_total), .int (zI rd_drive), .int (zI rd_runs)])), ((aRd 1), .inl (ca 0, 60, .inl (zA rd_kind))), ((aRd 2), .inl (ca 0, 61, .inl (zA rd_begin))), ((aRd 3), .inl (ca 0, 60, .inl (zA rd_runFrom))), ((aRd 4), .inl (ca 0, 60, .inl (zA rd_runTo))), ((aRd 5), .inl (ca 0, 60, .inl (zA rd_runDrive)))] 52 [(0, .ref (aRd 0)), (1, .ref (aCd 0)), (2, .int (zI v2)), (3, .int (zI v3))] [] := by
    intro rd_begin rd_acts rd_total
    intro n52
    induction n52 with
    | zero =>
      intro v3 rd_kind rd_runFrom rd_runTo rd_runDrive rd_drive rd_runs hf
      exact zno hf
    | succ n52 ih52 =>
      have H123 : ∀ (v3 : Int) (rd_kind : Nat → Int) (rd_runFrom : Nat → Int) (rd_runTo : Nat → Int) (rd_runDrive : Nat → Int) (rd_drive : Int) (rd_runs : Int), fX6_read_123 (zlp (fX6_read_52 v2 cd_kind cd_acts rd_begin rd_acts rd_total) n52) v3 rd_kind rd_runFrom rd_runTo rd_runDrive rd_drive rd_runs = some Ro → Zd D Γ 0 0 [((aCd 0), .inr (1, [.ref (aCd 1), .ref (aCd 2), .ref (aCd 3), .int (zI cd_acts)])), ((aCd 1), .inl (ca 0, 60, .inl (zA cd_kind))), ((aCd 3), .inl (ca 0, 61, .inl (zA cd_begin))), ((aRd 0), .inr (6, [.ref (aRd 1), .ref (aRd 2), .ref (aRd 3), .ref (aRd 4), .ref (aRd 5), .int (zI rd_acts), .int (zI rd_total), .int (zI rd_drive), .int (zI rd_runs)])), ((aRd 1), .inl (ca 0, 60, .inl (zA rd_kind))), ((aRd 2), .inl (ca 0, 61, .inl (zA rd_begin))), ((aRd 3), .inl (ca 0, 60, .inl (zA rd_runFrom))), ((aRd 4), .inl (ca 0, 60, .inl (zA rd_runTo))), ((aRd 5), .inl (ca 0, 60, .inl (zA rd_runDrive)))] 123 [(0, .ref (aRd 0)), (1, .ref (aCd 0)), (2, .int (zI v2)), (3, .int (zI v3))] [] := by
        intro v3 rd_kind rd_runFrom rd_runTo rd_runDrive rd_drive rd_runs hf
        unfold fX6_read_123 at hf
        refine g_iinc (pc := 123) C 3 (lv' := [(3, .int (zI (v3 + 1))), (0, .ref (aRd 0)), (1, .ref (aCd 0)), (2, .int (zI v2))]) dX6_read_123 rfl (Nat.le_of_ble_eq_true rfl) rfl ?_
        refine g_goto (pc := 126) C (tgt := 52) dX6_read_126 (by decide) ?_
        refine g_sub [0, 1, 2, 3, 4, 5, 6, 7, 8] [1, 2, 3, 0] (by decide) rfl rfl rfl ?_
        exact ih52 _ _ _ _ _ _ _ hf
      intro v3 rd_kind rd_runFrom rd_runTo rd_runDrive rd_drive rd_runs hf
      rw [zlp_s] at hf
      unfold fX6_read_52 at hf
      dsimp only at hf
      refine g_iload_n (pc := 52) C 3 dX6_read_52 rfl rfl ?_
      refine g_aload_n (pc := 53) C 0 dX6_read_53 rfl rfl ?_
      refine g_get (pc := 54) C zf_X6_27 3 rfl rfl dX6_read_54 ?_
      refine g_icmp_ge (pc := 57) C (tgt := 129) dX6_read_57 (by decide) hf (fun hf => ?_) (fun hf => ?_)
      · exact g_vret (pc := 129) C hf E rfl (fun _ => 0) [0, 1, 2, 3, 4, 5, 6, 7, 8] (by decide) rfl rfl (Nat.le_refl _) (Nat.le_refl _) dX6_read_129
      · refine g_aload_n (pc := 60) C 0 dX6_read_60 rfl rfl ?_
        refine g_get (pc := 61) C zf_X6_9 3 rfl rfl dX6_read_61 ?_
        refine g_iload_n (pc := 64) C 3 dX6_read_64 rfl rfl ?_
        refine g_aload_n (pc := 65) C 1 dX6_read_65 rfl rfl ?_
        refine g_iload_n (pc := 66) C 3 dX6_read_66 rfl rfl ?_
        refine g_iload_n (pc := 67) C 2 dX6_read_67 rfl rfl ?_
        obtain ⟨r_68, hc_68, hf⟩ := Option.bind_eq_some_iff.mp hf
        refine g_callV (pc := 68) C hl0 (wr := [((aCd 3), .inl (ca 0, 61, .inl (zA cd_begin))), ((aRd 0), .inr (6, [.ref (aRd 1), .ref (aRd 2), .ref (aRd 3), .ref (aRd 4), .ref (aRd 5), .int (zI rd_acts), .int (zI rd_total), .int (zI rd_drive), .int (zI rd_runs)])), ((aRd 1), .inl (ca 0, 60, .inl (zA rd_kind))), ((aRd 2), .inl (ca 0, 61, .inl (zA rd_begin))), ((aRd 3), .inl (ca 0, 60, .inl (zA rd_runFrom))), ((aRd 4), .inl (ca 0, 60, .inl (zA rd_runTo))), ((aRd 5), .inl (ca 0, 60, .inl (zA rd_runDrive)))]) (k' := 0) (n' := 0) (ws' := fun _ => [((aCd 3), .inl (ca 0, 61, .inl (zA cd_begin))), ((aRd 0), .inr (6, [.ref (aRd 1), .ref (aRd 2), .ref (aRd 3), .ref (aRd 4), .ref (aRd 5), .int (zI rd_acts), .int (zI rd_total), .int (zI rd_drive), .int (zI rd_runs)])), ((aRd 1), .inl (ca 0, 60, .inl (zA rd_kind))), ((aRd 2), .inl (ca 0, 61, .inl (zA rd_begin))), ((aRd 3), .inl (ca 0, 60, .inl (zA rd_runFrom))), ((aRd 4), .inl (ca 0, 60, .inl (zA rd_runTo))), ((aRd 5), .inl (ca 0, 60, .inl (zA rd_runDrive))), ((aCd 0), .inr (1, [.ref (aCd 1), .ref (aCd 2), .ref (aCd 3), .int (zI cd_acts)])), ((aCd 1), .inl (ca 0, 60, .inl (zA cd_kind)))]) (st' := [.int (zI r_68), .int (zI v3), .ref (aRd 1)]) (kX1_kindRead l D ca aCd cd_kind cd_acts v3 v2 r_68 hc_68) wml_RX6_50 wim_X1_kindRead wse_X1_kindRead win_RX1 wco_X1_kindRead (nA := 2) rfl (by decide +kernel)  ⟨(Nat.le_of_ble_eq_true rfl), (Nat.le_of_ble_eq_true rfl)⟩ (Nat.le_refl _) (Nat.le_refl _) rfl (Nat.le_of_ble_eq_true rfl) dX6_read_68 0 1 rfl rfl rfl [0, 1] [2, 3, 4, 5, 6, 7, 8] rfl rfl rfl (by decide) (by decide) (by decide) rfl rfl (fun _ => rfl) rfl (fun _ => ?_)
        refine g_iast (pc := 71) C (N := 60) (ws' := [((aCd 3), .inl (ca 0, 61, .inl (zA cd_begin))), ((aRd 0), .inr (6, [.ref (aRd 1), .ref (aRd 2), .ref (aRd 3), .ref (aRd 4), .ref (aRd 5), .int (zI rd_acts), .int (zI rd_total), .int (zI rd_drive), .int (zI rd_runs)])), ((aRd 1), .inl (ca 0, 60, .inl (zA (zU rd_kind v3.toNat r_68)))), ((aRd 2), .inl (ca 0, 61, .inl (zA rd_begin))), ((aRd 3), .inl (ca 0, 60, .inl (zA rd_runFrom))), ((aRd 4), .inl (ca 0, 60, .inl (zA rd_runTo))), ((aRd 5), .inl (ca 0, 60, .inl (zA rd_runDrive))), ((aCd 0), .inr (1, [.ref (aCd 1), .ref (aCd 2), .ref (aCd 3), .int (zI cd_acts)])), ((aCd 1), .inl (ca 0, 60, .inl (zA cd_kind)))]) 2 rfl rfl (Nat.le_of_ble_eq_true rfl) rfl dX6_read_71 hf (fun hf => ?_)
        refine g_aload_n (pc := 72) C 0 dX6_read_72 rfl rfl ?_
        refine g_get (pc := 73) C zf_X6_9 1 rfl rfl dX6_read_73 ?_
        refine g_iload_n (pc := 76) C 3 dX6_read_76 rfl rfl ?_
        refine g_iald (pc := 77) C (N := 60) 2 rfl rfl (Nat.le_of_ble_eq_true rfl) dX6_read_77 hf (fun hf => ?_)
        refine g_if_ne (pc := 78) C (tgt := 108) dX6_read_78 (by decide) hf (fun hf => ?_) (fun hf => ?_)
        · refine g_aload_n (pc := 108) C 0 dX6_read_108 rfl rfl ?_
          refine g_get (pc := 109) C zf_X6_9 1 rfl rfl dX6_read_109 ?_
          refine g_iload_n (pc := 112) C 3 dX6_read_112 rfl rfl ?_
          refine g_iald (pc := 113) C (N := 60) 2 rfl rfl (Nat.le_of_ble_eq_true rfl) dX6_read_113 hf (fun hf => ?_)
          refine g_iconst (pc := 114) C dX6_read_114 ?_
          refine g_icmp_ner (pc := 115) C (tgt := 123) dX6_read_115 (by decide) (by decide) hf (fun hf => ?_) (fun hf => ?_)
          · refine g_sub [7, 8, 0, 1, 2, 3, 4, 5, 6] [0, 1, 2, 3] (by decide) rfl rfl rfl ?_
            exact H123 _ _ _ _ _ _ _ hf
          · refine g_aload_n (pc := 118) C 0 dX6_read_118 rfl rfl ?_
            refine g_iload_n (pc := 119) C 3 dX6_read_119 rfl rfl ?_
            obtain ⟨⟨rd_runFrom_120, rd_runTo_120, rd_runDrive_120, rd_runs_120⟩, hc_120, hf⟩ := Option.bind_eq_some_iff.mp hf
            dsimp only at hf
            refine g_callV (pc := 120) C hl0 (wr := [((aCd 3), .inl (ca 0, 61, .inl (zA cd_begin))), ((aCd 0), .inr (1, [.ref (aCd 1), .ref (aCd 2), .ref (aCd 3), .int (zI cd_acts)])), ((aCd 1), .inl (ca 0, 60, .inl (zA cd_kind)))]) (k' := 0) (n' := 0) (ws' := fun _ => [((aCd 3), .inl (ca 0, 61, .inl (zA cd_begin))), ((aCd 0), .inr (1, [.ref (aCd 1), .ref (aCd 2), .ref (aCd 3), .int (zI cd_acts)])), ((aCd 1), .inl (ca 0, 60, .inl (zA cd_kind))), ((aRd 0), .inr (6, [.ref (aRd 1), .ref (aRd 2), .ref (aRd 3), .ref (aRd 4), .ref (aRd 5), .int (zI rd_acts), .int (zI rd_total), .int (zI rd_drive), .int (zI rd_runs_120)])), ((aRd 1), .inl (ca 0, 60, .inl (zA (zU rd_kind v3.toNat r_68)))), ((aRd 2), .inl (ca 0, 61, .inl (zA rd_begin))), ((aRd 3), .inl (ca 0, 60, .inl (zA rd_runFrom_120))), ((aRd 4), .inl (ca 0, 60, .inl (zA rd_runTo_120))), ((aRd 5), .inl (ca 0, 60, .inl (zA rd_runDrive_120)))]) (st' := []) (kX6_addRest l D ca aRd (zU rd_kind v3.toNat r_68) rd_begin rd_runFrom rd_runTo rd_runDrive rd_acts rd_total rd_drive rd_runs v3 (rd_runFrom_120, rd_runTo_120, rd_runDrive_120, rd_runs_120) hc_120) wml_RX6_54 wim_X6_addRest wse_X6_addRest win_RX6 wco_X6_addRest (nA := 1) rfl (by decide +kernel)  ⟨(Nat.le_of_ble_eq_true rfl), (Nat.le_of_ble_eq_true rfl)⟩ (Nat.le_refl _) (Nat.le_refl _) rfl (Nat.le_of_ble_eq_true rfl) dX6_read_120 1 6 rfl rfl rfl [1, 2, 3, 4, 5, 6] [0, 7, 8] rfl rfl rfl (by decide) (by decide) (by decide) rfl rfl (fun _ => rfl) rfl (fun _ => ?_)
            refine g_sub [1, 2, 0, 3, 4, 5, 6, 7, 8] [0, 1, 2, 3] (by decide) rfl rfl rfl ?_
            exact H123 _ _ _ _ _ _ _ hf
        · refine g_aload_n (pc := 81) C 0 dX6_read_81 rfl rfl ?_
          refine g_dup (pc := 82) C dX6_read_82 rfl ?_
          refine g_get (pc := 83) C zf_X6_34 1 rfl rfl dX6_read_83 ?_
          refine g_aload_n (pc := 86) C 0 dX6_read_86 rfl rfl ?_
          refine g_get (pc := 87) C zf_X6_15 1 rfl rfl dX6_read_87 ?_
          refine g_iload_n (pc := 90) C 3 dX6_read_90 rfl rfl ?_
          refine g_iconst (pc := 91) C dX6_read_91 ?_
          refine g_iadd (pc := 92) C dX6_read_92 ?_
          refine g_iald (pc := 93) C (N := 61) 3 rfl rfl (Nat.le_of_ble_eq_true rfl) dX6_read_93 hf (fun hf => ?_)
          refine g_aload_n (pc := 94) C 0 dX6_read_94 rfl rfl ?_
          refine g_get (pc := 95) C zf_X6_15 1 rfl rfl dX6_read_95 ?_
          refine g_iload_n (pc := 98) C 3 dX6_read_98 rfl rfl ?_
          refine g_iald (pc := 99) C (N := 61) 3 rfl rfl (Nat.le_of_ble_eq_true rfl) dX6_read_99 hf (fun hf => ?_)
          refine g_isub (pc := 100) C dX6_read_100 ?_
          refine g_iadd (pc := 101) C dX6_read_101 ?_
          refine g_put (pc := 102) C zf_X6_34 tyX6 tyX6_ok nmX6 (v := .int (zI (rd_drive + ((rd_begin (v3 + 1).toNat) - (rd_begin v3.toNat))))) (ws' := [((aCd 3), .inl (ca 0, 61, .inl (zA cd_begin))), ((aRd 0), .inr (6, [.ref (aRd 1), .ref (aRd 2), .ref (aRd 3), .ref (aRd 4), .ref (aRd 5), .int (zI rd_acts), .int (zI rd_total), .int (zI (rd_drive + ((rd_begin (v3 + 1).toNat) - (rd_begin v3.toNat)))), .int (zI rd_runs)])), ((aRd 1), .inl (ca 0, 60, .inl (zA (zU rd_kind v3.toNat r_68)))), ((aRd 2), .inl (ca 0, 61, .inl (zA rd_begin))), ((aRd 3), .inl (ca 0, 60, .inl (zA rd_runFrom))), ((aRd 4), .inl (ca 0, 60, .inl (zA rd_runTo))), ((aRd 5), .inl (ca 0, 60, .inl (zA rd_runDrive))), ((aCd 0), .inr (1, [.ref (aCd 1), .ref (aCd 2), .ref (aCd 3), .int (zI cd_acts)])), ((aCd 1), .inl (ca 0, 60, .inl (zA cd_kind)))]) 1 rfl rfl rfl rfl rfl (Nat.le_of_ble_eq_true rfl) rfl rfl dX6_read_102 ?_
          refine g_goto (pc := 105) C (tgt := 123) dX6_read_105 (by decide) ?_
          refine g_sub [7, 8, 0, 1, 2, 3, 4, 5, 6] [0, 1, 2, 3] (by decide) rfl rfl rfl ?_
          exact H123 _ _ _ _ _ _ _ hf
  unfold fX6_read at hf
  refine g_aload_n (pc := 0) C 0 dX6_read_0 rfl rfl ?_
  refine g_aload_n (pc := 1) C 1 dX6_read_1 rfl rfl ?_
  refine g_get (pc := 2) C zf_X6_40 0 rfl rfl dX6_read_2 ?_
  refine g_put (pc := 5) C zf_X6_27 tyX6 tyX6_ok nmX6 (v := .int (zI cd_acts)) (ws' := [((aCd 0), .inr (1, [.ref (aCd 1), .ref (aCd 2), .ref (aCd 3), .int (zI cd_acts)])), ((aCd 1), .inl (ca 0, 60, .inl (zA cd_kind))), ((aCd 3), .inl (ca 0, 61, .inl (zA cd_begin))), ((aRd 0), .inr (6, [.ref (aRd 1), .ref (aRd 2), .ref (aRd 3), .ref (aRd 4), .ref (aRd 5), .int (zI cd_acts), .int (zI rd_total), .int (zI rd_drive), .int (zI rd_runs)])), ((aRd 1), .inl (ca 0, 60, .inl (zA rd_kind))), ((aRd 2), .inl (ca 0, 61, .inl (zA rd_begin))), ((aRd 3), .inl (ca 0, 60, .inl (zA rd_runFrom))), ((aRd 4), .inl (ca 0, 60, .inl (zA rd_runTo))), ((aRd 5), .inl (ca 0, 60, .inl (zA rd_runDrive)))]) 3 rfl rfl rfl rfl rfl (Nat.le_of_ble_eq_true rfl) rfl rfl dX6_read_5 ?_
  refine g_aload_n (pc := 8) C 0 dX6_read_8 rfl rfl ?_
  refine g_aload_n (pc := 9) C 1 dX6_read_9 rfl rfl ?_
  refine g_get (pc := 10) C zf_X6_43 0 rfl rfl dX6_read_10 ?_
  refine g_aload_n (pc := 13) C 0 dX6_read_13 rfl rfl ?_
  refine g_get (pc := 14) C zf_X6_27 3 rfl rfl dX6_read_14 ?_
  refine g_iald (pc := 17) C (N := 61) 2 rfl rfl (Nat.le_of_ble_eq_true rfl) dX6_read_17 hf (fun hf => ?_)
  refine g_put (pc := 18) C zf_X6_31 tyX6 tyX6_ok nmX6 (v := .int (zI (cd_begin cd_acts.toNat))) (ws' := [((aCd 0), .inr (1, [.ref (aCd 1), .ref (aCd 2), .ref (aCd 3), .int (zI cd_acts)])), ((aCd 1), .inl (ca 0, 60, .inl (zA cd_kind))), ((aCd 3), .inl (ca 0, 61, .inl (zA cd_begin))), ((aRd 0), .inr (6, [.ref (aRd 1), .ref (aRd 2), .ref (aRd 3), .ref (aRd 4), .ref (aRd 5), .int (zI cd_acts), .int (zI (cd_begin cd_acts.toNat)), .int (zI rd_drive), .int (zI rd_runs)])), ((aRd 1), .inl (ca 0, 60, .inl (zA rd_kind))), ((aRd 2), .inl (ca 0, 61, .inl (zA rd_begin))), ((aRd 3), .inl (ca 0, 60, .inl (zA rd_runFrom))), ((aRd 4), .inl (ca 0, 60, .inl (zA rd_runTo))), ((aRd 5), .inl (ca 0, 60, .inl (zA rd_runDrive)))]) 3 rfl rfl rfl rfl rfl (Nat.le_of_ble_eq_true rfl) rfl rfl dX6_read_18 ?_
  refine g_aload_n (pc := 21) C 0 dX6_read_21 rfl rfl ?_
  refine g_iconst (pc := 22) C dX6_read_22 ?_
  refine g_put (pc := 23) C zf_X6_34 tyX6 tyX6_ok nmX6 (v := .int (zI 0)) (ws' := [((aCd 0), .inr (1, [.ref (aCd 1), .ref (aCd 2), .ref (aCd 3), .int (zI cd_acts)])), ((aCd 1), .inl (ca 0, 60, .inl (zA cd_kind))), ((aCd 3), .inl (ca 0, 61, .inl (zA cd_begin))), ((aRd 0), .inr (6, [.ref (aRd 1), .ref (aRd 2), .ref (aRd 3), .ref (aRd 4), .ref (aRd 5), .int (zI cd_acts), .int (zI (cd_begin cd_acts.toNat)), .int (zI 0), .int (zI rd_runs)])), ((aRd 1), .inl (ca 0, 60, .inl (zA rd_kind))), ((aRd 2), .inl (ca 0, 61, .inl (zA rd_begin))), ((aRd 3), .inl (ca 0, 60, .inl (zA rd_runFrom))), ((aRd 4), .inl (ca 0, 60, .inl (zA rd_runTo))), ((aRd 5), .inl (ca 0, 60, .inl (zA rd_runDrive)))]) 3 rfl rfl rfl rfl rfl (Nat.le_of_ble_eq_true rfl) rfl rfl dX6_read_23 ?_
  refine g_aload_n (pc := 26) C 0 dX6_read_26 rfl rfl ?_
  refine g_iconst (pc := 27) C dX6_read_27 ?_
  refine g_put (pc := 28) C zf_X6_37 tyX6 tyX6_ok nmX6 (v := .int (zI 0)) (ws' := [((aCd 0), .inr (1, [.ref (aCd 1), .ref (aCd 2), .ref (aCd 3), .int (zI cd_acts)])), ((aCd 1), .inl (ca 0, 60, .inl (zA cd_kind))), ((aCd 3), .inl (ca 0, 61, .inl (zA cd_begin))), ((aRd 0), .inr (6, [.ref (aRd 1), .ref (aRd 2), .ref (aRd 3), .ref (aRd 4), .ref (aRd 5), .int (zI cd_acts), .int (zI (cd_begin cd_acts.toNat)), .int (zI 0), .int (zI 0)])), ((aRd 1), .inl (ca 0, 60, .inl (zA rd_kind))), ((aRd 2), .inl (ca 0, 61, .inl (zA rd_begin))), ((aRd 3), .inl (ca 0, 60, .inl (zA rd_runFrom))), ((aRd 4), .inl (ca 0, 60, .inl (zA rd_runTo))), ((aRd 5), .inl (ca 0, 60, .inl (zA rd_runDrive)))]) 3 rfl rfl rfl rfl rfl (Nat.le_of_ble_eq_true rfl) rfl rfl dX6_read_28 ?_
  refine g_aload_n (pc := 31) C 1 dX6_read_31 rfl rfl ?_
  refine g_get (pc := 32) C zf_X6_43 0 rfl rfl dX6_read_32 ?_
  refine g_iconst (pc := 35) C dX6_read_35 ?_
  refine g_aload_n (pc := 36) C 0 dX6_read_36 rfl rfl ?_
  refine g_get (pc := 37) C zf_X6_15 3 rfl rfl dX6_read_37 ?_
  refine g_iconst (pc := 40) C dX6_read_40 ?_
  refine g_aload_n (pc := 41) C 0 dX6_read_41 rfl rfl ?_
  refine g_get (pc := 42) C zf_X6_27 3 rfl rfl dX6_read_42 ?_
  refine g_iconst (pc := 45) C dX6_read_45 ?_
  refine g_iadd (pc := 46) C dX6_read_46 ?_
  refine g_copyi (pc := 47) C (N0 := 61) (N1 := 61) (ws' := [((aCd 0), .inr (1, [.ref (aCd 1), .ref (aCd 2), .ref (aCd 3), .int (zI cd_acts)])), ((aCd 1), .inl (ca 0, 60, .inl (zA cd_kind))), ((aCd 3), .inl (ca 0, 61, .inl (zA cd_begin))), ((aRd 0), .inr (6, [.ref (aRd 1), .ref (aRd 2), .ref (aRd 3), .ref (aRd 4), .ref (aRd 5), .int (zI cd_acts), .int (zI (cd_begin cd_acts.toNat)), .int (zI 0), .int (zI 0)])), ((aRd 1), .inl (ca 0, 60, .inl (zA rd_kind))), ((aRd 2), .inl (ca 0, 61, .inl (zA (zcp cd_begin rd_begin (0 : Int).toNat (0 : Int).toNat (cd_acts + 1).toNat)))), ((aRd 3), .inl (ca 0, 60, .inl (zA rd_runFrom))), ((aRd 4), .inl (ca 0, 60, .inl (zA rd_runTo))), ((aRd 5), .inl (ca 0, 60, .inl (zA rd_runDrive)))]) wml_RX6_44 (Nat.le_of_ble_eq_true rfl) (Nat.le_of_ble_eq_true rfl) 2 5 rfl rfl rfl rfl (Nat.le_of_ble_eq_true rfl) (Nat.le_of_ble_eq_true rfl) rfl dX6_read_47 hf (fun hf => ?_)
  refine g_iconst (pc := 50) C dX6_read_50 ?_
  refine g_istore_n (pc := 51) C (lv' := [(3, .int (zI 0)), (0, .ref (aRd 0)), (1, .ref (aCd 0)), (2, .int (zI v2))]) dX6_read_51 rfl (Nat.le_of_ble_eq_true rfl) rfl ?_
  refine g_sub [0, 1, 2, 3, 4, 5, 6, 7, 8] [1, 2, 3, 0] (by decide) rfl rfl rfl ?_
  exact H52 _ _ _ _ _ _ _ _ _ _ _ hf
