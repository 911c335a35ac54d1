def oX11_isCard (ca : Nat → ClassId)   (Ro : Int) : (Nat → Nat) → va_W := fun _ => []
def oiX11_isCard (Ro : Int) : Option Value := (some (.int (zI Ro)))
set_option maxRecDepth 100000 in
theorem kX11_isCard (l : Launch) (D : va_G) (ca : Nat → ClassId)   (v0 : Int) (Ro : Int)
    (hf : fX11_isCard v0 = some Ro) : Zc l D ca yX11_isCard cX11_isCard 1 (some .boolean) { frames := 0, cells := 0, slots := 0, locals := 0 } [.int (zI v0)] [] (oiX11_isCard Ro) (oX11_isCard ca Ro) := by
  refine ctr_of (lv := [(0, .int (zI v0))]) (by decide +kernel) (Nat.le_of_ble_eq_true rfl) rfl (fun Γ hl0 C E hnm => ?_)
  have H13 : fX11_isCard_13 = some Ro → Zd D Γ 0 0 [] 13 [] [] := by
    intro  hf
    unfold fX11_isCard_13 at hf
    refine g_iconst (pc := 13) C dX11_isCard_13 ?_
    exact g_zret (pc := 14) C hf E (by decide) rfl (fun _ => 0) [] (by decide) rfl rfl (Nat.le_refl _) (Nat.le_refl _) dX11_isCard_14
  unfold fX11_isCard at hf
  refine g_iload_n (pc := 0) C 0 dX11_isCard_0 rfl rfl ?_
  refine g_if_lt (pc := 1) C (tgt := 13) dX11_isCard_1 (by decide) hf (fun hf => ?_) (fun hf => ?_)
  · refine g_sub [] [] (by decide) rfl rfl rfl ?_
    exact H13  hf
  · refine g_iload_n (pc := 4) C 0 dX11_isCard_4 rfl rfl ?_
    refine g_iconst (pc := 5) C dX11_isCard_5 ?_
    refine g_icmp_ger (pc := 6) C (tgt := 13) dX11_isCard_6 (by decide) (by decide) hf (fun hf => ?_) (fun hf => ?_)
    · refine g_sub [] [] (by decide) rfl rfl rfl ?_
      exact H13  hf
    · refine g_iconst (pc := 9) C dX11_isCard_9 ?_
      refine g_goto (pc := 10) C (tgt := 14) dX11_isCard_10 (by decide) ?_
      exact g_zret (pc := 14) C hf E (by decide) rfl (fun _ => 0) [] (by decide) rfl rfl (Nat.le_refl _) (Nat.le_refl _) dX11_isCard_14
def oX11_isKind (ca : Nat → ClassId)   (Ro : Int) : (Nat → Nat) → va_W := fun _ => []
def oiX11_isKind (Ro : Int) : Option Value := (some (.int (zI Ro)))
set_option maxRecDepth 100000 in
theorem kX11_isKind (l : Launch) (D : va_G) (ca : Nat → ClassId)   (v0 : Int) (v1 : Int) (Ro : Int)
    (hf : fX11_isKind v0 v1 = some Ro) : Zc l D ca yX11_isKind cX11_isKind 2 (some .boolean) { frames := 0, cells := 0, slots := 0, locals := 0 } [.int (zI v0), .int (zI v1)] [] (oiX11_isKind Ro) (oX11_isKind ca Ro) := by
  refine ctr_of (lv := [(0, .int (zI v0)), (1, .int (zI v1))]) (by decide +kernel) (Nat.le_of_ble_eq_true rfl) rfl (fun Γ hl0 C E hnm => ?_)
  have H22 : fX11_isKind_22 = some Ro → Zd D Γ 0 0 [] 22 [] [] := by
    intro  hf
    unfold fX11_isKind_22 at hf
    refine g_iconst (pc := 22) C dX11_isKind_22 ?_
    refine g_goto (pc := 23) C (tgt := 27) dX11_isKind_23 (by decide) ?_
    exact g_zret (pc := 27) C hf E (by decide) rfl (fun _ => 0) [] (by decide) rfl rfl (Nat.le_refl _) (Nat.le_refl _) dX11_isKind_27
  have H26 : fX11_isKind_26 = some Ro → Zd D Γ 0 0 [] 26 [] [] := by
    intro  hf
    unfold fX11_isKind_26 at hf
    refine g_iconst (pc := 26) C dX11_isKind_26 ?_
    exact g_zret (pc := 27) C hf E (by decide) rfl (fun _ => 0) [] (by decide) rfl rfl (Nat.le_refl _) (Nat.le_refl _) dX11_isKind_27
  unfold fX11_isKind at hf
  refine g_iload_n (pc := 0) C 0 dX11_isKind_0 rfl rfl ?_
  refine g_if_lt (pc := 1) C (tgt := 26) dX11_isKind_1 (by decide) hf (fun hf => ?_) (fun hf => ?_)
  · refine g_sub [] [] (by decide) rfl rfl rfl ?_
    exact H26  hf
  · refine g_iload_n (pc := 4) C 0 dX11_isKind_4 rfl rfl ?_
    refine g_iconst (pc := 5) C dX11_isKind_5 ?_
    refine g_icmp_gtr (pc := 6) C (tgt := 26) dX11_isKind_6 (by decide) (by decide) hf (fun hf => ?_) (fun hf => ?_)
    · refine g_sub [] [] (by decide) rfl rfl rfl ?_
      exact H26  hf
    · refine g_iload_n (pc := 9) C 0 dX11_isKind_9 rfl rfl ?_
      refine g_if_ne (pc := 10) C (tgt := 22) dX11_isKind_10 (by decide) hf (fun hf => ?_) (fun hf => ?_)
      · refine g_sub [] [] (by decide) rfl rfl rfl ?_
        exact H22  hf
      · refine g_iload_n (pc := 13) C 1 dX11_isKind_13 rfl rfl ?_
        refine g_if_eq (pc := 14) C (tgt := 22) dX11_isKind_14 (by decide) hf (fun hf => ?_) (fun hf => ?_)
        · refine g_sub [] [] (by decide) rfl rfl rfl ?_
          exact H22  hf
        · refine g_iload_n (pc := 17) C 1 dX11_isKind_17 rfl rfl ?_
          refine g_iconst (pc := 18) C dX11_isKind_18 ?_
          refine g_icmp_ner (pc := 19) C (tgt := 26) dX11_isKind_19 (by decide) (by decide) hf (fun hf => ?_) (fun hf => ?_)
          · refine g_sub [] [] (by decide) rfl rfl rfl ?_
            exact H26  hf
          · refine g_sub [] [] (by decide) rfl rfl rfl ?_
            exact H22  hf
def oX11_act (ca : Nat → ClassId) (aMo : Nat → Nat) (mo_taped : Int) (mo_size : Int) (mo_runs : Int) (mo_found : Int) (mo_counted : Int) (mo_isParted : Int) (mo_maybes : Int) (mo_days : Int) (mo_over2 : Int) (mo_longer : Int) (Ro : Int × (Nat → Int) × (Nat → Int) × (Nat → Int) × (Nat → Int) × (Nat → Int)) : (Nat → Nat) → va_W := fun _ => [((aMo 0), .inr (11, [.ref (aMo 1), .int (zI mo_taped), .ref (aMo 3), .ref (aMo 4), .ref (aMo 5), .ref (aMo 6), .ref (aMo 7), .ref (aMo 8), .ref (aMo 9), .ref (aMo 10), .ref (aMo 11), .ref (aMo 12), .ref (aMo 13), .ref (aMo 14), .ref (aMo 15), .ref (aMo 16), .int (zI mo_size), .int (zI mo_runs), .ref (aMo 19), .ref (aMo 20), .ref (aMo 21), .int (zI mo_found), .int (zI mo_counted), .int (zI mo_isParted), .ref (aMo 25), .ref (aMo 26), .ref (aMo 27), .ref (aMo 28), .ref (aMo 29), .int (zI mo_maybes), .int (zI mo_days), .int (zI mo_over2), .int (zI mo_longer), .ref (aMo 34)])), ((aMo 5), .inl (ca 0, 4, .inl (zA (Ro.2.1)))), ((aMo 6), .inl (ca 0, 4, .inl (zA (Ro.2.2.1)))), ((aMo 7), .inl (ca 0, 240, .inl (zA (Ro.2.2.2.1)))), ((aMo 8), .inl (ca 0, 240, .inl (zA (Ro.2.2.2.2.1)))), ((aMo 9), .inl (ca 0, 240, .inl (zA (Ro.2.2.2.2.2))))]
def oiX11_act (Ro : Int × (Nat → Int) × (Nat → Int) × (Nat → Int) × (Nat → Int) × (Nat → Int)) : Option Value := (some (.int (zI Ro.1)))
set_option maxRecDepth 100000 in
theorem kX11_act (l : Launch) (D : va_G) (ca : Nat → ClassId) (aMo : Nat → Nat) (mo_taped : Int) (mo_acts : Nat → Int) (mo_minutes : Nat → Int) (mo_kindOf : Nat → Int) (mo_lengthOf : Nat → Int) (mo_vehicleOf : Nat → Int) (mo_size : Int) (mo_runs : Int) (mo_found : Int) (mo_counted : Int) (mo_isParted : Int) (mo_maybes : Int) (mo_days : Int) (mo_over2 : Int) (mo_longer : Int) (v1 : Int) (v2 : Int) (v3 : Int) (v4 : Int) (Ro : Int × (Nat → Int) × (Nat → Int) × (Nat → Int) × (Nat → Int) × (Nat → Int))
    (hf : fX11_act v1 v2 v3 v4 mo_acts mo_minutes mo_kindOf mo_lengthOf mo_vehicleOf = some Ro) : Zc l D ca yX11_act cX11_act 6 (some .int) { frames := 1, cells := 0, slots := 0, locals := 21 } [.ref (aMo 0), .int (zI v1), .int (zI v2), .int (zI v3), .int (zI v4)] [((aMo 0), .inr (11, [.ref (aMo 1), .int (zI mo_taped), .ref (aMo 3), .ref (aMo 4), .ref (aMo 5), .ref (aMo 6), .ref (aMo 7), .ref (aMo 8), .ref (aMo 9), .ref (aMo 10), .ref (aMo 11), .ref (aMo 12), .ref (aMo 13), .ref (aMo 14), .ref (aMo 15), .ref (aMo 16), .int (zI mo_size), .int (zI mo_runs), .ref (aMo 19), .ref (aMo 20), .ref (aMo 21), .int (zI mo_found), .int (zI mo_counted), .int (zI mo_isParted), .ref (aMo 25), .ref (aMo 26), .ref (aMo 27), .ref (aMo 28), .ref (aMo 29), .int (zI mo_maybes), .int (zI mo_days), .int (zI mo_over2), .int (zI mo_longer), .ref (aMo 34)])), ((aMo 5), .inl (ca 0, 4, .inl (zA mo_acts))), ((aMo 6), .inl (ca 0, 4, .inl (zA mo_minutes))), ((aMo 7), .inl (ca 0, 240, .inl (zA mo_kindOf))), ((aMo 8), .inl (ca 0, 240, .inl (zA mo_lengthOf))), ((aMo 9), .inl (ca 0, 240, .inl (zA mo_vehicleOf)))] (oiX11_act Ro) (oX11_act ca aMo mo_taped mo_size mo_runs mo_found mo_counted mo_isParted mo_maybes mo_days mo_over2 mo_longer Ro) := by
  refine ctr_of (lv := [(0, .ref (aMo 0)), (1, .int (zI v1)), (2, .int (zI v2)), (3, .int (zI v3)), (4, .int (zI v4))]) (by decide +kernel) (Nat.le_of_ble_eq_true rfl) rfl (fun Γ hl0 C E hnm => ?_)
  have H53 : ∀ (mo_acts : Nat → Int) (mo_minutes : Nat → Int) (mo_kindOf : Nat → Int) (mo_lengthOf : Nat → Int) (mo_vehicleOf : Nat → Int), fX11_act_53 mo_acts mo_minutes mo_kindOf mo_lengthOf mo_vehicleOf = some Ro → Zd D Γ 0 0 [((aMo 0), .inr (11, [.ref (aMo 1), .int (zI mo_taped), .ref (aMo 3), .ref (aMo 4), .ref (aMo 5), .ref (aMo 6), .ref (aMo 7), .ref (aMo 8), .ref (aMo 9), .ref (aMo 10), .ref (aMo 11), .ref (aMo 12), .ref (aMo 13), .ref (aMo 14), .ref (aMo 15), .ref (aMo 16), .int (zI mo_size), .int (zI mo_runs), .ref (aMo 19), .ref (aMo 20), .ref (aMo 21), .int (zI mo_found), .int (zI mo_counted), .int (zI mo_isParted), .ref (aMo 25), .ref (aMo 26), .ref (aMo 27), .ref (aMo 28), .ref (aMo 29), .int (zI mo_maybes), .int (zI mo_days), .int (zI mo_over2), .int (zI mo_longer), .ref (aMo 34)])), ((aMo 5), .inl (ca 0, 4, .inl (zA mo_acts))), ((aMo 6), .inl (ca 0, 4, .inl (zA mo_minutes))), ((aMo 7), .inl (ca 0, 240, .inl (zA mo_kindOf))), ((aMo 8), .inl (ca 0, 240, .inl (zA mo_lengthOf))), ((aMo 9), .inl (ca 0, 240, .inl (zA mo_vehicleOf)))] 53 [] [] := by
    intro mo_acts mo_minutes mo_kindOf mo_lengthOf mo_vehicleOf hf
    unfold fX11_act_53 at hf
    refine g_iconst (pc := 53) C dX11_act_53 ?_
    exact g_iret (pc := 54) C hf E rfl (fun _ => 0) [0, 1, 2, 3, 4, 5] (by decide) rfl rfl (Nat.le_refl _) (Nat.le_refl _) dX11_act_54
  have H100 : ∀ (s1 : Int) (s2 : Int) (mo_acts : Nat → Int) (mo_minutes : Nat → Int) (mo_kindOf : Nat → Int) (mo_lengthOf : Nat → Int) (mo_vehicleOf : Nat → Int), fX11_act_100 v1 v3 s1 s2 mo_acts mo_minutes mo_kindOf mo_lengthOf mo_vehicleOf = some Ro → Zd D Γ 0 0 [((aMo 0), .inr (11, [.ref (aMo 1), .int (zI mo_taped), .ref (aMo 3), .ref (aMo 4), .ref (aMo 5), .ref (aMo 6), .ref (aMo 7), .ref (aMo 8), .ref (aMo 9), .ref (aMo 10), .ref (aMo 11), .ref (aMo 12), .ref (aMo 13), .ref (aMo 14), .ref (aMo 15), .ref (aMo 16), .int (zI mo_size), .int (zI mo_runs), .ref (aMo 19), .ref (aMo 20), .ref (aMo 21), .int (zI mo_found), .int (zI mo_counted), .int (zI mo_isParted), .ref (aMo 25), .ref (aMo 26), .ref (aMo 27), .ref (aMo 28), .ref (aMo 29), .int (zI mo_maybes), .int (zI mo_days), .int (zI mo_over2), .int (zI mo_longer), .ref (aMo 34)])), ((aMo 5), .inl (ca 0, 4, .inl (zA mo_acts))), ((aMo 6), .inl (ca 0, 4, .inl (zA mo_minutes))), ((aMo 7), .inl (ca 0, 240, .inl (zA mo_kindOf))), ((aMo 8), .inl (ca 0, 240, .inl (zA mo_lengthOf))), ((aMo 9), .inl (ca 0, 240, .inl (zA mo_vehicleOf)))] 100 [(0, .ref (aMo 0)), (1, .int (zI v1)), (3, .int (zI v3))] [.int (zI s2), .int (zI s1), .ref (aMo 9)] := by
    intro s1 s2 mo_acts mo_minutes mo_kindOf mo_lengthOf mo_vehicleOf hf
    unfold fX11_act_100 at hf
    refine g_iast (pc := 100) C (N := 240) (ws' := [((aMo 0), .inr (11, [.ref (aMo 1), .int (zI mo_taped), .ref (aMo 3), .ref (aMo 4), .ref (aMo 5), .ref (aMo 6), .ref (aMo 7), .ref (aMo 8), .ref (aMo 9), .ref (aMo 10), .ref (aMo 11), .ref (aMo 12), .ref (aMo 13), .ref (aMo 14), .ref (aMo 15), .ref (aMo 16), .int (zI mo_size), .int (zI mo_runs), .ref (aMo 19), .ref (aMo 20), .ref (aMo 21), .int (zI mo_found), .int (zI mo_counted), .int (zI mo_isParted), .ref (aMo 25), .ref (aMo 26), .ref (aMo 27), .ref (aMo 28), .ref (aMo 29), .int (zI mo_maybes), .int (zI mo_days), .int (zI mo_over2), .int (zI mo_longer), .ref (aMo 34)])), ((aMo 5), .inl (ca 0, 4, .inl (zA mo_acts))), ((aMo 6), .inl (ca 0, 4, .inl (zA mo_minutes))), ((aMo 7), .inl (ca 0, 240, .inl (zA mo_kindOf))), ((aMo 8), .inl (ca 0, 240, .inl (zA mo_lengthOf))), ((aMo 9), .inl (ca 0, 240, .inl (zA (zU mo_vehicleOf s1.toNat s2))))]) 5 rfl rfl (Nat.le_of_ble_eq_true rfl) rfl dX11_act_100 hf (fun hf => ?_)
    refine g_aload_n (pc := 101) C 0 dX11_act_101 rfl rfl ?_
    refine g_get (pc := 102) C zf_X11_23 0 rfl rfl dX11_act_102 ?_
    refine g_iload_n (pc := 105) C 1 dX11_act_105 rfl rfl ?_
    refine g_aload_n (pc := 106) C 0 dX11_act_106 rfl rfl ?_
    refine g_get (pc := 107) C zf_X11_23 0 rfl rfl dX11_act_107 ?_
    refine g_iload_n (pc := 110) C 1 dX11_act_110 rfl rfl ?_
    refine g_iald (pc := 111) C (N := 4) 2 rfl rfl (Nat.le_of_ble_eq_true rfl) dX11_act_111 hf (fun hf => ?_)
    refine g_iload_n (pc := 112) C 2 dX11_act_112 rfl rfl ?_
    refine g_iadd (pc := 113) C dX11_act_113 ?_
    refine g_iast (pc := 114) C (N := 4) (ws' := [((aMo 0), .inr (11, [.ref (aMo 1), .int (zI mo_taped), .ref (aMo 3), .ref (aMo 4), .ref (aMo 5), .ref (aMo 6), .ref (aMo 7), .ref (aMo 8), .ref (aMo 9), .ref (aMo 10), .ref (aMo 11), .ref (aMo 12), .ref (aMo 13), .ref (aMo 14), .ref (aMo 15), .ref (aMo 16), .int (zI mo_size), .int (zI mo_runs), .ref (aMo 19), .ref (aMo 20), .ref (aMo 21), .int (zI mo_found), .int (zI mo_counted), .int (zI mo_isParted), .ref (aMo 25), .ref (aMo 26), .ref (aMo 27), .ref (aMo 28), .ref (aMo 29), .int (zI mo_maybes), .int (zI mo_days), .int (zI mo_over2), .int (zI mo_longer), .ref (aMo 34)])), ((aMo 5), .inl (ca 0, 4, .inl (zA mo_acts))), ((aMo 6), .inl (ca 0, 4, .inl (zA (zU mo_minutes v1.toNat ((mo_minutes v1.toNat) + v3))))), ((aMo 7), .inl (ca 0, 240, .inl (zA mo_kindOf))), ((aMo 8), .inl (ca 0, 240, .inl (zA mo_lengthOf))), ((aMo 9), .inl (ca 0, 240, .inl (zA (zU mo_vehicleOf s1.toNat s2))))]) 2 rfl rfl (Nat.le_of_ble_eq_true rfl) rfl dX11_act_114 hf (fun hf => ?_)
    refine g_aload_n (pc := 115) C 0 dX11_act_115 rfl rfl ?_
    refine g_get (pc := 116) C zf_X11_20 0 rfl rfl dX11_act_116 ?_
    refine g_iload_n (pc := 119) C 1 dX11_act_119 rfl rfl ?_
    refine g_aload_n (pc := 120) C 0 dX11_act_120 rfl rfl ?_
    refine g_get (pc := 121) C zf_X11_20 0 rfl rfl dX11_act_121 ?_
    refine g_iload_n (pc := 124) C 1 dX11_act_124 rfl rfl ?_
    refine g_iald (pc := 125) C (N := 4) 1 rfl rfl (Nat.le_of_ble_eq_true rfl) dX11_act_125 hf (fun hf => ?_)
    refine g_iconst (pc := 126) C dX11_act_126 ?_
    refine g_iadd (pc := 127) C dX11_act_127 ?_
    refine g_iast (pc := 128) C (N := 4) (ws' := [((aMo 0), .inr (11, [.ref (aMo 1), .int (zI mo_taped), .ref (aMo 3), .ref (aMo 4), .ref (aMo 5), .ref (aMo 6), .ref (aMo 7), .ref (aMo 8), .ref (aMo 9), .ref (aMo 10), .ref (aMo 11), .ref (aMo 12), .ref (aMo 13), .ref (aMo 14), .ref (aMo 15), .ref (aMo 16), .int (zI mo_size), .int (zI mo_runs), .ref (aMo 19), .ref (aMo 20), .ref (aMo 21), .int (zI mo_found), .int (zI mo_counted), .int (zI mo_isParted), .ref (aMo 25), .ref (aMo 26), .ref (aMo 27), .ref (aMo 28), .ref (aMo 29), .int (zI mo_maybes), .int (zI mo_days), .int (zI mo_over2), .int (zI mo_longer), .ref (aMo 34)])), ((aMo 5), .inl (ca 0, 4, .inl (zA (zU mo_acts v1.toNat ((mo_acts v1.toNat) + 1))))), ((aMo 6), .inl (ca 0, 4, .inl (zA (zU mo_minutes v1.toNat ((mo_minutes v1.toNat) + v3))))), ((aMo 7), .inl (ca 0, 240, .inl (zA mo_kindOf))), ((aMo 8), .inl (ca 0, 240, .inl (zA mo_lengthOf))), ((aMo 9), .inl (ca 0, 240, .inl (zA (zU mo_vehicleOf s1.toNat s2))))]) 1 rfl rfl (Nat.le_of_ble_eq_true rfl) rfl dX11_act_128 hf (fun hf => ?_)
    refine g_aload_n (pc := 129) C 0 dX11_act_129 rfl rfl ?_
    refine g_get (pc := 130) C zf_X11_20 0 rfl rfl dX11_act_130 ?_
    refine g_iload_n (pc := 133) C 1 dX11_act_133 rfl rfl ?_
    refine g_iald (pc := 134) C (N := 4) 1 rfl rfl (Nat.le_of_ble_eq_true rfl) dX11_act_134 hf (fun hf => ?_)
    refine g_iconst (pc := 135) C dX11_act_135 ?_
    refine g_isub (pc := 136) C dX11_act_136 ?_
    exact g_iret (pc := 137) C hf E rfl (fun _ => 0) [0, 1, 2, 3, 4, 5] (by decide) rfl rfl (Nat.le_refl _) (Nat.le_refl _) dX11_act_137
  unfold fX11_act at hf
  refine g_iload_n (pc := 0) C 1 dX11_act_0 rfl rfl ?_
  obtain ⟨r_1, hc_1, hf⟩ := Option.bind_eq_some_iff.mp hf
  refine g_callS (pc := 1) C hl0 (wr := [((aMo 0), .inr (11, [.ref (aMo 1), .int (zI mo_taped), .ref (aMo 3), .ref (aMo 4), .ref (aMo 5), .ref (aMo 6), .ref (aMo 7), .ref (aMo 8), .ref (aMo 9), .ref (aMo 10), .ref (aMo 11), .ref (aMo 12), .ref (aMo 13), .ref (aMo 14), .ref (aMo 15), .ref (aMo 16), .int (zI mo_size), .int (zI mo_runs), .ref (aMo 19), .ref (aMo 20), .ref (aMo 21), .int (zI mo_found), .int (zI mo_counted), .int (zI mo_isParted), .ref (aMo 25), .ref (aMo 26), .ref (aMo 27), .ref (aMo 28), .ref (aMo 29), .int (zI mo_maybes), .int (zI mo_days), .int (zI mo_over2), .int (zI mo_longer), .ref (aMo 34)])), ((aMo 5), .inl (ca 0, 4, .inl (zA mo_acts))), ((aMo 6), .inl (ca 0, 4, .inl (zA mo_minutes))), ((aMo 7), .inl (ca 0, 240, .inl (zA mo_kindOf))), ((aMo 8), .inl (ca 0, 240, .inl (zA mo_lengthOf))), ((aMo 9), .inl (ca 0, 240, .inl (zA mo_vehicleOf)))]) (k' := 0) (n' := 0) (ws' := fun _ => [((aMo 0), .inr (11, [.ref (aMo 1), .int (zI mo_taped), .ref (aMo 3), .ref (aMo 4), .ref (aMo 5), .ref (aMo 6), .ref (aMo 7), .ref (aMo 8), .ref (aMo 9), .ref (aMo 10), .ref (aMo 11), .ref (aMo 12), .ref (aMo 13), .ref (aMo 14), .ref (aMo 15), .ref (aMo 16), .int (zI mo_size), .int (zI mo_runs), .ref (aMo 19), .ref (aMo 20), .ref (aMo 21), .int (zI mo_found), .int (zI mo_counted), .int (zI mo_isParted), .ref (aMo 25), .ref (aMo 26), .ref (aMo 27), .ref (aMo 28), .ref (aMo 29), .int (zI mo_maybes), .int (zI mo_days), .int (zI mo_over2), .int (zI mo_longer), .ref (aMo 34)])), ((aMo 5), .inl (ca 0, 4, .inl (zA mo_acts))), ((aMo 6), .inl (ca 0, 4, .inl (zA mo_minutes))), ((aMo 7), .inl (ca 0, 240, .inl (zA mo_kindOf))), ((aMo 8), .inl (ca 0, 240, .inl (zA mo_lengthOf))), ((aMo 9), .inl (ca 0, 240, .inl (zA mo_vehicleOf)))]) (st' := [.int (zI r_1)]) (kX11_isCard l D ca v1 r_1 hc_1) wml_RX11_110 wst_X11_isCard win_RX11 wco_X11_isCard (nA := 1) rfl (by decide +kernel)  ⟨(Nat.le_of_ble_eq_true rfl), (Nat.le_of_ble_eq_true rfl)⟩ (Nat.le_refl _) (Nat.le_refl _) rfl (Nat.le_of_ble_eq_true rfl) dX11_act_1 [] [0, 1, 2, 3, 4, 5] rfl rfl rfl (by decide) (by decide) (by decide) rfl rfl (fun _ => rfl) rfl (fun _ => ?_)
  refine g_if_eq (pc := 4) C (tgt := 53) dX11_act_4 (by decide) hf (fun hf => ?_) (fun hf => ?_)
  · refine g_sub [0, 1, 2, 3, 4, 5] [] (by decide) rfl rfl rfl ?_
    exact H53 _ _ _ _ _ hf
  · refine g_iload_n (pc := 7) C 2 dX11_act_7 rfl rfl ?_
    refine g_iload (pc := 8) C 4 dX11_act_8 rfl ?_
    obtain ⟨r_10, hc_10, hf⟩ := Option.bind_eq_some_iff.mp hf
    refine g_callS (pc := 10) C hl0 (wr := [((aMo 0), .inr (11, [.ref (aMo 1), .int (zI mo_taped), .ref (aMo 3), .ref (aMo 4), .ref (aMo 5), .ref (aMo 6), .ref (aMo 7), .ref (aMo 8), .ref (aMo 9), .ref (aMo 10), .ref (aMo 11), .ref (aMo 12), .ref (aMo 13), .ref (aMo 14), .ref (aMo 15), .ref (aMo 16), .int (zI mo_size), .int (zI mo_runs), .ref (aMo 19), .ref (aMo 20), .ref (aMo 21), .int (zI mo_found), .int (zI mo_counted), .int (zI mo_isParted), .ref (aMo 25), .ref (aMo 26), .ref (aMo 27), .ref (aMo 28), .ref (aMo 29), .int (zI mo_maybes), .int (zI mo_days), .int (zI mo_over2), .int (zI mo_longer), .ref (aMo 34)])), ((aMo 5), .inl (ca 0, 4, .inl (zA mo_acts))), ((aMo 6), .inl (ca 0, 4, .inl (zA mo_minutes))), ((aMo 7), .inl (ca 0, 240, .inl (zA mo_kindOf))), ((aMo 8), .inl (ca 0, 240, .inl (zA mo_lengthOf))), ((aMo 9), .inl (ca 0, 240, .inl (zA mo_vehicleOf)))]) (k' := 0) (n' := 0) (ws' := fun _ => [((aMo 0), .inr (11, [.ref (aMo 1), .int (zI mo_taped), .ref (aMo 3), .ref (aMo 4), .ref (aMo 5), .ref (aMo 6), .ref (aMo 7), .ref (aMo 8), .ref (aMo 9), .ref (aMo 10), .ref (aMo 11), .ref (aMo 12), .ref (aMo 13), .ref (aMo 14), .ref (aMo 15), .ref (aMo 16), .int (zI mo_size), .int (zI mo_runs), .ref (aMo 19), .ref (aMo 20), .ref (aMo 21), .int (zI mo_found), .int (zI mo_counted), .int (zI mo_isParted), .ref (aMo 25), .ref (aMo 26), .ref (aMo 27), .ref (aMo 28), .ref (aMo 29), .int (zI mo_maybes), .int (zI mo_days), .int (zI mo_over2), .int (zI mo_longer), .ref (aMo 34)])), ((aMo 5), .inl (ca 0, 4, .inl (zA mo_acts))), ((aMo 6), .inl (ca 0, 4, .inl (zA mo_minutes))), ((aMo 7), .inl (ca 0, 240, .inl (zA mo_kindOf))), ((aMo 8), .inl (ca 0, 240, .inl (zA mo_lengthOf))), ((aMo 9), .inl (ca 0, 240, .inl (zA mo_vehicleOf)))]) (st' := [.int (zI r_10)]) (kX11_isKind l D ca v2 v4 r_10 hc_10) wml_RX11_114 wst_X11_isKind win_RX11 wco_X11_isKind (nA := 2) rfl (by decide +kernel)  ⟨(Nat.le_of_ble_eq_true rfl), (Nat.le_of_ble_eq_true rfl)⟩ (Nat.le_refl _) (Nat.le_refl _) rfl (Nat.le_of_ble_eq_true rfl) dX11_act_10 [] [0, 1, 2, 3, 4, 5] rfl rfl rfl (by decide) (by decide) (by decide) rfl rfl (fun _ => rfl) rfl (fun _ => ?_)
    refine g_if_eq (pc := 13) C (tgt := 53) dX11_act_13 (by decide) hf (fun hf => ?_) (fun hf => ?_)
    · refine g_sub [0, 1, 2, 3, 4, 5] [] (by decide) rfl rfl rfl ?_
      exact H53 _ _ _ _ _ hf
    · refine g_iload_n (pc := 16) C 3 dX11_act_16 rfl rfl ?_
      refine g_iconst (pc := 17) C dX11_act_17 ?_
      refine g_icmp_ltr (pc := 18) C (tgt := 53) dX11_act_18 (by decide) (by decide) hf (fun hf => ?_) (fun hf => ?_)
      · refine g_sub [0, 1, 2, 3, 4, 5] [] (by decide) rfl rfl rfl ?_
        exact H53 _ _ _ _ _ hf
      · refine g_iload_n (pc := 21) C 3 dX11_act_21 rfl rfl ?_
        refine g_sipush (pc := 22) C dX11_act_22 (by decide) ?_
        refine g_icmp_gtr (pc := 25) C (tgt := 53) dX11_act_25 (by decide) (by decide) hf (fun hf => ?_) (fun hf => ?_)
        · refine g_sub [0, 1, 2, 3, 4, 5] [] (by decide) rfl rfl rfl ?_
          exact H53 _ _ _ _ _ hf
        · refine g_aload_n (pc := 28) C 0 dX11_act_28 rfl rfl ?_
          refine g_get (pc := 29) C zf_X11_20 0 rfl rfl dX11_act_29 ?_
          refine g_iload_n (pc := 32) C 1 dX11_act_32 rfl rfl ?_
          refine g_iald (pc := 33) C (N := 4) 1 rfl rfl (Nat.le_of_ble_eq_true rfl) dX11_act_33 hf (fun hf => ?_)
          refine g_bipush (pc := 34) C dX11_act_34 (by decide) ?_
          refine g_icmp_eqr (pc := 36) C (tgt := 53) dX11_act_36 (by decide) (by decide) hf (fun hf => ?_) (fun hf => ?_)
          · refine g_sub [0, 1, 2, 3, 4, 5] [] (by decide) rfl rfl rfl ?_
            exact H53 _ _ _ _ _ hf
          · refine g_aload_n (pc := 39) C 0 dX11_act_39 rfl rfl ?_
            refine g_get (pc := 40) C zf_X11_23 0 rfl rfl dX11_act_40 ?_
            refine g_iload_n (pc := 43) C 1 dX11_act_43 rfl rfl ?_
            refine g_iald (pc := 44) C (N := 4) 2 rfl rfl (Nat.le_of_ble_eq_true rfl) dX11_act_44 hf (fun hf => ?_)
            refine g_iload_n (pc := 45) C 3 dX11_act_45 rfl rfl ?_
            refine g_iadd (pc := 46) C dX11_act_46 ?_
            refine g_sipush (pc := 47) C dX11_act_47 (by decide) ?_
            refine g_icmp_ler (pc := 50) C (tgt := 55) dX11_act_50 (by decide) (by decide) hf (fun hf => ?_) (fun hf => ?_)
            · refine g_bipush (pc := 55) C dX11_act_55 (by decide) ?_
              refine g_iload_n (pc := 57) C 1 dX11_act_57 rfl rfl ?_
              refine g_imul (pc := 58) C dX11_act_58 ?_
              refine g_aload_n (pc := 59) C 0 dX11_act_59 rfl rfl ?_
              refine g_get (pc := 60) C zf_X11_20 0 rfl rfl dX11_act_60 ?_
              refine g_iload_n (pc := 63) C 1 dX11_act_63 rfl rfl ?_
              refine g_iald (pc := 64) C (N := 4) 1 rfl rfl (Nat.le_of_ble_eq_true rfl) dX11_act_64 hf (fun hf => ?_)
              refine g_iadd (pc := 65) C dX11_act_65 ?_
              refine g_istore (pc := 66) C (lv' := [(5, .int (zI ((60 * v1) + (mo_acts v1.toNat)))), (0, .ref (aMo 0)), (1, .int (zI v1)), (2, .int (zI v2)), (3, .int (zI v3)), (4, .int (zI v4))]) dX11_act_66 (Nat.le_of_ble_eq_true rfl) rfl ?_
              refine g_aload_n (pc := 68) C 1 dX11_act_68 rfl rfl ?_
              refine g_get (pc := 69) C zf_X11_26 0 rfl rfl dX11_act_69 ?_
              refine g_iload (pc := 72) C 0 dX11_act_72 rfl ?_
              refine g_iload_n (pc := 74) C 3 dX11_act_74 rfl rfl ?_
              refine g_iast (pc := 75) C (N := 240) (ws' := [((aMo 0), .inr (11, [.ref (aMo 1), .int (zI mo_taped), .ref (aMo 3), .ref (aMo 4), .ref (aMo 5), .ref (aMo 6), .ref (aMo 7), .ref (aMo 8), .ref (aMo 9), .ref (aMo 10), .ref (aMo 11), .ref (aMo 12), .ref (aMo 13), .ref (aMo 14), .ref (aMo 15), .ref (aMo 16), .int (zI mo_size), .int (zI mo_runs), .ref (aMo 19), .ref (aMo 20), .ref (aMo 21), .int (zI mo_found), .int (zI mo_counted), .int (zI mo_isParted), .ref (aMo 25), .ref (aMo 26), .ref (aMo 27), .ref (aMo 28), .ref (aMo 29), .int (zI mo_maybes), .int (zI mo_days), .int (zI mo_over2), .int (zI mo_longer), .ref (aMo 34)])), ((aMo 5), .inl (ca 0, 4, .inl (zA mo_acts))), ((aMo 6), .inl (ca 0, 4, .inl (zA mo_minutes))), ((aMo 7), .inl (ca 0, 240, .inl (zA (zU mo_kindOf ((60 * v1) + (mo_acts v1.toNat)).toNat v2)))), ((aMo 8), .inl (ca 0, 240, .inl (zA mo_lengthOf))), ((aMo 9), .inl (ca 0, 240, .inl (zA mo_vehicleOf)))]) 3 rfl rfl (Nat.le_of_ble_eq_true rfl) rfl dX11_act_75 hf (fun hf => ?_)
              refine g_aload_n (pc := 76) C 1 dX11_act_76 rfl rfl ?_
              refine g_get (pc := 77) C zf_X11_29 0 rfl rfl dX11_act_77 ?_
              refine g_iload (pc := 80) C 0 dX11_act_80 rfl ?_
              refine g_iload_n (pc := 82) C 4 dX11_act_82 rfl rfl ?_
              refine g_iast (pc := 83) C (N := 240) (ws' := [((aMo 0), .inr (11, [.ref (aMo 1), .int (zI mo_taped), .ref (aMo 3), .ref (aMo 4), .ref (aMo 5), .ref (aMo 6), .ref (aMo 7), .ref (aMo 8), .ref (aMo 9), .ref (aMo 10), .ref (aMo 11), .ref (aMo 12), .ref (aMo 13), .ref (aMo 14), .ref (aMo 15), .ref (aMo 16), .int (zI mo_size), .int (zI mo_runs), .ref (aMo 19), .ref (aMo 20), .ref (aMo 21), .int (zI mo_found), .int (zI mo_counted), .int (zI mo_isParted), .ref (aMo 25), .ref (aMo 26), .ref (aMo 27), .ref (aMo 28), .ref (aMo 29), .int (zI mo_maybes), .int (zI mo_days), .int (zI mo_over2), .int (zI mo_longer), .ref (aMo 34)])), ((aMo 5), .inl (ca 0, 4, .inl (zA mo_acts))), ((aMo 6), .inl (ca 0, 4, .inl (zA mo_minutes))), ((aMo 7), .inl (ca 0, 240, .inl (zA (zU mo_kindOf ((60 * v1) + (mo_acts v1.toNat)).toNat v2)))), ((aMo 8), .inl (ca 0, 240, .inl (zA (zU mo_lengthOf ((60 * v1) + (mo_acts v1.toNat)).toNat v3)))), ((aMo 9), .inl (ca 0, 240, .inl (zA mo_vehicleOf)))]) 4 rfl rfl (Nat.le_of_ble_eq_true rfl) rfl dX11_act_83 hf (fun hf => ?_)
              refine g_aload_n (pc := 84) C 1 dX11_act_84 rfl rfl ?_
              refine g_get (pc := 85) C zf_X11_32 0 rfl rfl dX11_act_85 ?_
              refine g_iload (pc := 88) C 0 dX11_act_88 rfl ?_
              refine g_iload_n (pc := 90) C 3 dX11_act_90 rfl rfl ?_
              refine g_if_ne (pc := 91) C (tgt := 99) dX11_act_91 (by decide) hf (fun hf => ?_) (fun hf => ?_)
              · refine g_iconst (pc := 99) C dX11_act_99 ?_
                refine g_sub [0, 1, 2, 3, 4, 5] [1, 2, 4] (by decide) rfl rfl rfl ?_
                exact H100 _ _ _ _ _ _ _ hf
              · refine g_iload (pc := 94) C 5 dX11_act_94 rfl ?_
                refine g_goto (pc := 96) C (tgt := 100) dX11_act_96 (by decide) ?_
                refine g_sub [0, 1, 2, 3, 4, 5] [1, 2, 4] (by decide) rfl rfl rfl ?_
                exact H100 _ _ _ _ _ _ _ hf
            · refine g_sub [0, 1, 2, 3, 4, 5] [] (by decide) rfl rfl rfl ?_
              exact H53 _ _ _ _ _ hf
def oX11_isOnTrip (ca : Nat → ClassId) (aMo : Nat → Nat) (mo_taped : Int) (mo_trips : Nat → Int) (mo_tripFrom : Nat → Int) (mo_tripTo : Nat → Int) (mo_size : Int) (mo_runs : Int) (mo_found : Int) (mo_counted : Int) (mo_isParted : Int) (mo_maybes : Int) (mo_days : Int) (mo_over2 : Int) (mo_longer : Int) (Ro : Int) : (Nat → Nat) → va_W := fun _ => [((aMo 0), .inr (11, [.ref (aMo 1), .int (zI mo_taped), .ref (aMo 3), .ref (aMo 4), .ref (aMo 5), .ref (aMo 6), .ref (aMo 7), .ref (aMo 8), .ref (aMo 9), .ref (aMo 10), .ref (aMo 11), .ref (aMo 12), .ref (aMo 13), .ref (aMo 14), .ref (aMo 15), .ref (aMo 16), .int (zI mo_size), .int (zI mo_runs), .ref (aMo 19), .ref (aMo 20), .ref (aMo 21), .int (zI mo_found), .int (zI mo_counted), .int (zI mo_isParted), .ref (aMo 25), .ref (aMo 26), .ref (aMo 27), .ref (aMo 28), .ref (aMo 29), .int (zI mo_maybes), .int (zI mo_days), .int (zI mo_over2), .int (zI mo_longer), .ref (aMo 34)])), ((aMo 10), .inl (ca 0, 2, .inl (zA mo_trips))), ((aMo 11), .inl (ca 0, 40, .inl (zA mo_tripFrom))), ((aMo 12), .inl (ca 0, 40, .inl (zA mo_tripTo)))]
def oiX11_isOnTrip (Ro : Int) : Option Value := (some (.int (zI Ro)))
set_option maxRecDepth 100000 in
theorem kX11_isOnTrip (l : Launch) (D : va_G) (ca : Nat → ClassId) (aMo : Nat → Nat) (mo_taped : Int) (mo_trips : Nat → Int) (mo_tripFrom : Nat → Int) (mo_tripTo : Nat → Int) (mo_size : Int) (mo_runs : Int) (mo_found : Int) (mo_counted : Int) (mo_isParted : Int) (mo_maybes : Int) (mo_days : Int) (mo_over2 : Int) (mo_longer : Int) (v1 : Int) (v2 : Int) (Ro : Int)
    (hf : fX11_isOnTrip v1 v2 mo_trips mo_tripFrom mo_tripTo = some Ro) : Zc l D ca yX11_isOnTrip cX11_isOnTrip 4 (some .boolean) { frames := 0, cells := 0, slots := 0, locals := 0 } [.ref (aMo 0), .int (zI v1), .int (zI v2)] [((aMo 0), .inr (11, [.ref (aMo 1), .int (zI mo_taped), .ref (aMo 3), .ref (aMo 4), .ref (aMo 5), .ref (aMo 6), .ref (aMo 7), .ref (aMo 8), .ref (aMo 9), .ref (aMo 10), .ref (aMo 11), .ref (aMo 12), .ref (aMo 13), .ref (aMo 14), .ref (aMo 15), .ref (aMo 16), .int (zI mo_size), .int (zI mo_runs), .ref (aMo 19), .ref (aMo 20), .ref (aMo 21), .int (zI mo_found), .int (zI mo_counted), .int (zI mo_isParted), .ref (aMo 25), .ref (aMo 26), .ref (aMo 27), .ref (aMo 28), .ref (aMo 29), .int (zI mo_maybes), .int (zI mo_days), .int (zI mo_over2), .int (zI mo_longer), .ref (aMo 34)])), ((aMo 10), .inl (ca 0, 2, .inl (zA mo_trips))), ((aMo 11), .inl (ca 0, 40, .inl (zA mo_tripFrom))), ((aMo 12), .inl (ca 0, 40, .inl (zA mo_tripTo)))] (oiX11_isOnTrip Ro) (oX11_isOnTrip ca aMo mo_taped mo_trips mo_tripFrom mo_tripTo mo_size mo_runs mo_found mo_counted mo_isParted mo_maybes mo_days mo_over2 mo_longer Ro) := by
  refine ctr_of (lv := [(0, .ref (aMo 0)), (1, .int (zI v1)), (2, .int (zI v2))]) (by decide +kernel) (Nat.le_of_ble_eq_true rfl) rfl (fun Γ hl0 C E hnm => ?_)
  have H5 : ∀  (n5 : Nat) (v3 : Int), zlp (fX11_isOnTrip_5 v1 v2 mo_trips mo_tripFrom mo_tripTo) n5 v3 = some Ro → Zd D Γ 0 0 [((aMo 0), .inr (11, [.ref (aMo 1), .int (zI mo_taped), .ref (aMo 3), .ref (aMo 4), .ref (aMo 5), .ref (aMo 6), .ref (aMo 7), .ref (aMo 8), .ref (aMo 9), .ref (aMo 10), .ref (aMo 11), .ref (aMo 12), .ref (aMo 13), .ref (aMo 14), .ref (aMo 15), .ref (aMo 16), .int (zI mo_size), .int (zI mo_runs), .ref (aMo 19), .ref (aMo 20), .ref (aMo 21), .int (zI mo_found), .int (zI mo_counted), .int (zI mo_isParted), .ref (aMo 25), .ref (aMo 26), .ref (aMo 27), .ref (aMo 28), .ref (aMo 29), .int (zI mo_maybes), .int (zI mo_days), .int (zI mo_over2), .int (zI mo_longer), .ref (aMo 34)])), ((aMo 10), .inl (ca 0, 2, .inl (zA mo_trips))), ((aMo 11), .inl (ca 0, 40, .inl (zA mo_tripFrom))), ((aMo 12), .inl (ca 0, 40, .inl (zA mo_tripTo)))] 5 [(0, .ref (aMo 0)), (1, .int (zI v1)), (2, .int (zI v2)), (3, .int (zI v3))] [] := by
    intro n5
    induction n5 with
    | zero =>
      intro v3 hf
      exact zno hf
    | succ n5 ih5 =>
      have H42 : ∀ (v3 : Int), fX11_isOnTrip_42 (zlp (fX11_isOnTrip_5 v1 v2 mo_trips mo_tripFrom mo_tripTo) n5) v3 = some Ro → Zd D Γ 0 0 [((aMo 0), .inr (11, [.ref (aMo 1), .int (zI mo_taped), .ref (aMo 3), .ref (aMo 4), .ref (aMo 5), .ref (aMo 6), .ref (aMo 7), .ref (aMo 8), .ref (aMo 9), .ref (aMo 10), .ref (aMo 11), .ref (aMo 12), .ref (aMo 13), .ref (aMo 14), .ref (aMo 15), .ref (aMo 16), .int (zI mo_size), .int (zI mo_runs), .ref (aMo 19), .ref (aMo 20), .ref (aMo 21), .int (zI mo_found), .int (zI mo_counted), .int (zI mo_isParted), .ref (aMo 25), .ref (aMo 26), .ref (aMo 27), .ref (aMo 28), .ref (aMo 29), .int (zI mo_maybes), .int (zI mo_days), .int (zI mo_over2), .int (zI mo_longer), .ref (aMo 34)])), ((aMo 10), .inl (ca 0, 2, .inl (zA mo_trips))), ((aMo 11), .inl (ca 0, 40, .inl (zA mo_tripFrom))), ((aMo 12), .inl (ca 0, 40, .inl (zA mo_tripTo)))] 42 [(0, .ref (aMo 0)), (1, .int (zI v1)), (2, .int (zI v2)), (3, .int (zI v3))] [] := by
        intro v3 hf
        unfold fX11_isOnTrip_42 at hf
        refine g_iinc (pc := 42) C 3 (lv' := [(3, .int (zI (v3 + 1))), (0, .ref (aMo 0)), (1, .int (zI v1)), (2, .int (zI v2))]) dX11_isOnTrip_42 rfl (Nat.le_of_ble_eq_true rfl) rfl ?_
        refine g_goto (pc := 45) C (tgt := 5) dX11_isOnTrip_45 (by decide) ?_
        refine g_sub [0, 1, 2, 3] [1, 2, 3, 0] (by decide) rfl rfl rfl ?_
        exact ih5 _ hf
      intro v3 hf
      rw [zlp_s] at hf
      unfold fX11_isOnTrip_5 at hf
      refine g_iload_n (pc := 5) C 3 dX11_isOnTrip_5 rfl rfl ?_
      refine g_bipush (pc := 6) C dX11_isOnTrip_6 (by decide) ?_
      refine g_iload_n (pc := 8) C 1 dX11_isOnTrip_8 rfl rfl ?_
      refine g_imul (pc := 9) C dX11_isOnTrip_9 ?_
      refine g_aload_n (pc := 10) C 0 dX11_isOnTrip_10 rfl rfl ?_
      refine g_get (pc := 11) C zf_X11_35 0 rfl rfl dX11_isOnTrip_11 ?_
      refine g_iload_n (pc := 14) C 1 dX11_isOnTrip_14 rfl rfl ?_
      refine g_iald (pc := 15) C (N := 2) 1 rfl rfl (Nat.le_of_ble_eq_true rfl) dX11_isOnTrip_15 hf (fun hf => ?_)
      refine g_iadd (pc := 16) C dX11_isOnTrip_16 ?_
      refine g_icmp_ge (pc := 17) C (tgt := 48) dX11_isOnTrip_17 (by decide) hf (fun hf => ?_) (fun hf => ?_)
      · refine g_iconst (pc := 48) C dX11_isOnTrip_48 ?_
        exact g_zret (pc := 49) C hf E (by decide) rfl (fun _ => 0) [0, 1, 2, 3] (by decide) rfl rfl (Nat.le_refl _) (Nat.le_refl _) dX11_isOnTrip_49
      · refine g_iload_n (pc := 20) C 2 dX11_isOnTrip_20 rfl rfl ?_
        refine g_aload_n (pc := 21) C 0 dX11_isOnTrip_21 rfl rfl ?_
        refine g_get (pc := 22) C zf_X11_38 0 rfl rfl dX11_isOnTrip_22 ?_
        refine g_iload_n (pc := 25) C 3 dX11_isOnTrip_25 rfl rfl ?_
        refine g_iald (pc := 26) C (N := 40) 2 rfl rfl (Nat.le_of_ble_eq_true rfl) dX11_isOnTrip_26 hf (fun hf => ?_)
        refine g_icmp_lt (pc := 27) C (tgt := 42) dX11_isOnTrip_27 (by decide) hf (fun hf => ?_) (fun hf => ?_)
        · exact H42 _ hf
        · refine g_iload_n (pc := 30) C 2 dX11_isOnTrip_30 rfl rfl ?_
          refine g_aload_n (pc := 31) C 0 dX11_isOnTrip_31 rfl rfl ?_
          refine g_get (pc := 32) C zf_X11_41 0 rfl rfl dX11_isOnTrip_32 ?_
          refine g_iload_n (pc := 35) C 3 dX11_isOnTrip_35 rfl rfl ?_
          refine g_iald (pc := 36) C (N := 40) 3 rfl rfl (Nat.le_of_ble_eq_true rfl) dX11_isOnTrip_36 hf (fun hf => ?_)
          refine g_icmp_ge (pc := 37) C (tgt := 42) dX11_isOnTrip_37 (by decide) hf (fun hf => ?_) (fun hf => ?_)
          · exact H42 _ hf
          · refine g_iconst (pc := 40) C dX11_isOnTrip_40 ?_
            exact g_zret (pc := 41) C hf E (by decide) rfl (fun _ => 0) [0, 1, 2, 3] (by decide) rfl rfl (Nat.le_refl _) (Nat.le_refl _) dX11_isOnTrip_41
  unfold fX11_isOnTrip at hf
  refine g_bipush (pc := 0) C dX11_isOnTrip_0 (by decide) ?_
  refine g_iload_n (pc := 2) C 1 dX11_isOnTrip_2 rfl rfl ?_
  refine g_imul (pc := 3) C dX11_isOnTrip_3 ?_
  refine g_istore_n (pc := 4) C (lv' := [(3, .int (zI (20 * v1))), (0, .ref (aMo 0)), (1, .int (zI v1)), (2, .int (zI v2))]) dX11_isOnTrip_4 rfl (Nat.le_of_ble_eq_true rfl) rfl ?_
  refine g_sub [0, 1, 2, 3] [1, 2, 3, 0] (by decide) rfl rfl rfl ?_
  exact H5 _ _ hf
def oX11_against (ca : Nat → ClassId) (aMo : Nat → Nat) (mo_taped : Int) (mo_acts : Nat → Int) (mo_kindOf : Nat → Int) (mo_lengthOf : Nat → Int) (mo_vehicleOf : Nat → Int) (mo_trips : Nat → Int) (mo_tripFrom : Nat → Int) (mo_tripTo : Nat → Int) (mo_size : Int) (mo_runs : Int) (mo_found : Int) (mo_counted : Int) (mo_isParted : Int) (mo_maybes : Int) (mo_days : Int) (mo_over2 : Int) (mo_longer : Int) (Ro : Int × (Nat → Int)) : (Nat → Nat) → va_W := fun _ => [((aMo 0), .inr (11, [.ref (aMo 1), .int (zI mo_taped), .ref (aMo 3), .ref (aMo 4), .ref (aMo 5), .ref (aMo 6), .ref (aMo 7), .ref (aMo 8), .ref (aMo 9), .ref (aMo 10), .ref (aMo 11), .ref (aMo 12), .ref (aMo 13), .ref (aMo 14), .ref (aMo 15), .ref (aMo 16), .int (zI mo_size), .int (zI mo_runs), .ref (aMo 19), .ref (aMo 20), .ref (aMo 21), .int (zI mo_found), .int (zI mo_counted), .int (zI mo_isParted), .ref (aMo 25), .ref (aMo 26), .ref (aMo 27), .ref (aMo 28), .ref (aMo 29), .int (zI mo_maybes), .int (zI mo_days), .int (zI mo_over2), .int (zI mo_longer), .ref (aMo 34)])), ((aMo 5), .inl (ca 0, 4, .inl (zA mo_acts))), ((aMo 7), .inl (ca 0, 240, .inl (zA mo_kindOf))), ((aMo 8), .inl (ca 0, 240, .inl (zA mo_lengthOf))), ((aMo 9), .inl (ca 0, 240, .inl (zA mo_vehicleOf))), ((aMo 10), .inl (ca 0, 2, .inl (zA mo_trips))), ((aMo 11), .inl (ca 0, 40, .inl (zA mo_tripFrom))), ((aMo 12), .inl (ca 0, 40, .inl (zA mo_tripTo))), ((aMo 34), .inl (ca 0, 20160, .inl (zA (Ro.2))))]
def oiX11_against (Ro : Int × (Nat → Int)) : Option Value := (some (.int (zI Ro.1)))
set_option maxRecDepth 100000 in
theorem kX11_against (l : Launch) (D : va_G) (ca : Nat → ClassId) (aMo : Nat → Nat) (mo_taped : Int) (mo_acts : Nat → Int) (mo_kindOf : Nat → Int) (mo_lengthOf : Nat → Int) (mo_vehicleOf : Nat → Int) (mo_trips : Nat → Int) (mo_tripFrom : Nat → Int) (mo_tripTo : Nat → Int) (mo_size : Int) (mo_runs : Int) (mo_found : Int) (mo_counted : Int) (mo_isParted : Int) (mo_maybes : Int) (mo_days : Int) (mo_over2 : Int) (mo_longer : Int) (mo_driving : Nat → Int) (v1 : Int) (v2 : Int) (Ro : Int × (Nat → Int))
    (hf : fX11_against v1 v2 mo_acts mo_kindOf mo_lengthOf mo_vehicleOf mo_trips mo_tripFrom mo_tripTo mo_driving = some Ro) : Zc l D ca yX11_against cX11_against 8 (some .int) { frames := 1, cells := 0, slots := 0, locals := 23 } [.ref (aMo 0), .int (zI v1), .int (zI v2)] [((aMo 0), .inr (11, [.ref (aMo 1), .int (zI mo_taped), .ref (aMo 3), .ref (aMo 4), .ref (aMo 5), .ref (aMo 6), .ref (aMo 7), .ref (aMo 8), .ref (aMo 9), .ref (aMo 10), .ref (aMo 11), .ref (aMo 12), .ref (aMo 13), .ref (aMo 14), .ref (aMo 15), .ref (aMo 16), .int (zI mo_size), .int (zI mo_runs), .ref (aMo 19), .ref (aMo 20), .ref (aMo 21), .int (zI mo_found), .int (zI mo_counted), .int (zI mo_isParted), .ref (aMo 25), .ref (aMo 26), .ref (aMo 27), .ref (aMo 28), .ref (aMo 29), .int (zI mo_maybes), .int (zI mo_days), .int (zI mo_over2), .int (zI mo_longer), .ref (aMo 34)])), ((aMo 5), .inl (ca 0, 4, .inl (zA mo_acts))), ((aMo 7), .inl (ca 0, 240, .inl (zA mo_kindOf))), ((aMo 8), .inl (ca 0, 240, .inl (zA mo_lengthOf))), ((aMo 9), .inl (ca 0, 240, .inl (zA mo_vehicleOf))), ((aMo 10), .inl (ca 0, 2, .inl (zA mo_trips))), ((aMo 11), .inl (ca 0, 40, .inl (zA mo_tripFrom))), ((aMo 12), .inl (ca 0, 40, .inl (zA mo_tripTo))), ((aMo 34), .inl (ca 0, 20160, .inl (zA mo_driving)))] (oiX11_against Ro) (oX11_against ca aMo mo_taped mo_acts mo_kindOf mo_lengthOf mo_vehicleOf mo_trips mo_tripFrom mo_tripTo mo_size mo_runs mo_found mo_counted mo_isParted mo_maybes mo_days mo_over2 mo_longer Ro) := by
  refine ctr_of (lv := [(0, .ref (aMo 0)), (1, .int (zI v1)), (2, .int (zI v2))]) (by decide +kernel) (Nat.le_of_ble_eq_true rfl) rfl (fun Γ hl0 C E hnm => ?_)
  have H18 : ∀ (mo_driving : Nat → Int), fX11_against_18 mo_driving = some Ro → Zd D Γ 0 0 [((aMo 0), .inr (11, [.ref (aMo 1), .int (zI mo_taped), .ref (aMo 3), .ref (aMo 4), .ref (aMo 5), .ref (aMo 6), .ref (aMo 7), .ref (aMo 8), .ref (aMo 9), .ref (aMo 10), .ref (aMo 11), .ref (aMo 12), .ref (aMo 13), .ref (aMo 14), .ref (aMo 15), .ref (aMo 16), .int (zI mo_size), .int (zI mo_runs), .ref (aMo 19), .ref (aMo 20), .ref (aMo 21), .int (zI mo_found), .int (zI mo_counted), .int (zI mo_isParted), .ref (aMo 25), .ref (aMo 26), .ref (aMo 27), .ref (aMo 28), .ref (aMo 29), .int (zI mo_maybes), .int (zI mo_days), .int (zI mo_over2), .int (zI mo_longer), .ref (aMo 34)])), ((aMo 5), .inl (ca 0, 4, .inl (zA mo_acts))), ((aMo 7), .inl (ca 0, 240, .inl (zA mo_kindOf))), ((aMo 8), .inl (ca 0, 240, .inl (zA mo_lengthOf))), ((aMo 9), .inl (ca 0, 240, .inl (zA mo_vehicleOf))), ((aMo 10), .inl (ca 0, 2, .inl (zA mo_trips))), ((aMo 11), .inl (ca 0, 40, .inl (zA mo_tripFrom))), ((aMo 12), .inl (ca 0, 40, .inl (zA mo_tripTo))), ((aMo 34), .inl (ca 0, 20160, .inl (zA mo_driving)))] 18 [] [] := by
    intro mo_driving hf
    unfold fX11_against_18 at hf
    refine g_iconst (pc := 18) C dX11_against_18 ?_
    exact g_iret (pc := 19) C hf E rfl (fun _ => 0) [0, 1, 2, 3, 4, 5, 6, 7, 8] (by decide) rfl rfl (Nat.le_refl _) (Nat.le_refl _) dX11_against_19
  have H166 : ∀ (mo_driving : Nat → Int) (n166 : Nat) (v3 : Int) (v4 : Int), zlp (fX11_against_166 v1 v2 mo_trips mo_tripFrom mo_tripTo mo_driving) n166 (v3, v4) = some Ro → Zd D Γ 0 0 [((aMo 0), .inr (11, [.ref (aMo 1), .int (zI mo_taped), .ref (aMo 3), .ref (aMo 4), .ref (aMo 5), .ref (aMo 6), .ref (aMo 7), .ref (aMo 8), .ref (aMo 9), .ref (aMo 10), .ref (aMo 11), .ref (aMo 12), .ref (aMo 13), .ref (aMo 14), .ref (aMo 15), .ref (aMo 16), .int (zI mo_size), .int (zI mo_runs), .ref (aMo 19), .ref (aMo 20), .ref (aMo 21), .int (zI mo_found), .int (zI mo_counted), .int (zI mo_isParted), .ref (aMo 25), .ref (aMo 26), .ref (aMo 27), .ref (aMo 28), .ref (aMo 29), .int (zI mo_maybes), .int (zI mo_days), .int (zI mo_over2), .int (zI mo_longer), .ref (aMo 34)])), ((aMo 5), .inl (ca 0, 4, .inl (zA mo_acts))), ((aMo 7), .inl (ca 0, 240, .inl (zA mo_kindOf))), ((aMo 8), .inl (ca 0, 240, .inl (zA mo_lengthOf))), ((aMo 9), .inl (ca 0, 240, .inl (zA mo_vehicleOf))), ((aMo 10), .inl (ca 0, 2, .inl (zA mo_trips))), ((aMo 11), .inl (ca 0, 40, .inl (zA mo_tripFrom))), ((aMo 12), .inl (ca 0, 40, .inl (zA mo_tripTo))), ((aMo 34), .inl (ca 0, 20160, .inl (zA mo_driving)))] 166 [(0, .ref (aMo 0)), (1, .int (zI v1)), (2, .int (zI v2)), (3, .int (zI v3)), (4, .int (zI v4))] [] := by
    intro mo_driving
    intro n166
    induction n166 with
    | zero =>
      intro v3 v4 hf
      exact zno hf
    | succ n166 ih166 =>
      have H268 : ∀ (v4 : Int) (s0 : Int) (s1 : Int), fX11_against_268 (zlp (fX11_against_166 v1 v2 mo_trips mo_tripFrom mo_tripTo mo_driving) n166) v4 s0 s1 = some Ro → Zd D Γ 0 0 [((aMo 0), .inr (11, [.ref (aMo 1), .int (zI mo_taped), .ref (aMo 3), .ref (aMo 4), .ref (aMo 5), .ref (aMo 6), .ref (aMo 7), .ref (aMo 8), .ref (aMo 9), .ref (aMo 10), .ref (aMo 11), .ref (aMo 12), .ref (aMo 13), .ref (aMo 14), .ref (aMo 15), .ref (aMo 16), .int (zI mo_size), .int (zI mo_runs), .ref (aMo 19), .ref (aMo 20), .ref (aMo 21), .int (zI mo_found), .int (zI mo_counted), .int (zI mo_isParted), .ref (aMo 25), .ref (aMo 26), .ref (aMo 27), .ref (aMo 28), .ref (aMo 29), .int (zI mo_maybes), .int (zI mo_days), .int (zI mo_over2), .int (zI mo_longer), .ref (aMo 34)])), ((aMo 5), .inl (ca 0, 4, .inl (zA mo_acts))), ((aMo 7), .inl (ca 0, 240, .inl (zA mo_kindOf))), ((aMo 8), .inl (ca 0, 240, .inl (zA mo_lengthOf))), ((aMo 9), .inl (ca 0, 240, .inl (zA mo_vehicleOf))), ((aMo 10), .inl (ca 0, 2, .inl (zA mo_trips))), ((aMo 11), .inl (ca 0, 40, .inl (zA mo_tripFrom))), ((aMo 12), .inl (ca 0, 40, .inl (zA mo_tripTo))), ((aMo 34), .inl (ca 0, 20160, .inl (zA mo_driving)))] 268 [(0, .ref (aMo 0)), (1, .int (zI v1)), (2, .int (zI v2)), (4, .int (zI v4))] [.int (zI s1), .int (zI s0)] := by
        intro v4 s0 s1 hf
        unfold fX11_against_268 at hf
        refine g_iadd (pc := 268) C dX11_against_268 ?_
        refine g_istore_n (pc := 269) C (lv' := [(3, .int (zI (s0 + s1))), (0, .ref (aMo 0)), (1, .int (zI v1)), (2, .int (zI v2)), (4, .int (zI v4))]) dX11_against_269 rfl (Nat.le_of_ble_eq_true rfl) rfl ?_
        refine g_iinc (pc := 270) C 4 (lv' := [(4, .int (zI (v4 + 1))), (3, .int (zI (s0 + s1))), (0, .ref (aMo 0)), (1, .int (zI v1)), (2, .int (zI v2))]) dX11_against_270 rfl (Nat.le_of_ble_eq_true rfl) rfl ?_
        refine g_goto (pc := 273) C (tgt := 166) dX11_against_273 (by decide) ?_
        refine g_sub [0, 1, 2, 3, 4, 5, 6, 7, 8] [2, 3, 4, 1, 0] (by decide) rfl rfl rfl ?_
        exact ih166 _ _ hf
      have H255 : ∀ (v3 : Int) (v4 : Int) (s0 : Int), fX11_against_255 (zlp (fX11_against_166 v1 v2 mo_trips mo_tripFrom mo_tripTo mo_driving) n166) v3 v4 s0 = some Ro → Zd D Γ 0 0 [((aMo 0), .inr (11, [.ref (aMo 1), .int (zI mo_taped), .ref (aMo 3), .ref (aMo 4), .ref (aMo 5), .ref (aMo 6), .ref (aMo 7), .ref (aMo 8), .ref (aMo 9), .ref (aMo 10), .ref (aMo 11), .ref (aMo 12), .ref (aMo 13), .ref (aMo 14), .ref (aMo 15), .ref (aMo 16), .int (zI mo_size), .int (zI mo_runs), .ref (aMo 19), .ref (aMo 20), .ref (aMo 21), .int (zI mo_found), .int (zI mo_counted), .int (zI mo_isParted), .ref (aMo 25), .ref (aMo 26), .ref (aMo 27), .ref (aMo 28), .ref (aMo 29), .int (zI mo_maybes), .int (zI mo_days), .int (zI mo_over2), .int (zI mo_longer), .ref (aMo 34)])), ((aMo 5), .inl (ca 0, 4, .inl (zA mo_acts))), ((aMo 7), .inl (ca 0, 240, .inl (zA mo_kindOf))), ((aMo 8), .inl (ca 0, 240, .inl (zA mo_lengthOf))), ((aMo 9), .inl (ca 0, 240, .inl (zA mo_vehicleOf))), ((aMo 10), .inl (ca 0, 2, .inl (zA mo_trips))), ((aMo 11), .inl (ca 0, 40, .inl (zA mo_tripFrom))), ((aMo 12), .inl (ca 0, 40, .inl (zA mo_tripTo))), ((aMo 34), .inl (ca 0, 20160, .inl (zA mo_driving)))] 255 [(0, .ref (aMo 0)), (1, .int (zI v1)), (2, .int (zI v2)), (3, .int (zI v3)), (4, .int (zI v4))] [.int (zI s0)] := by
        intro v3 v4 s0 hf
        unfold fX11_against_255 at hf
        refine g_istore (pc := 255) C (lv' := [(5, .int (zI s0)), (0, .ref (aMo 0)), (1, .int (zI v1)), (2, .int (zI v2)), (3, .int (zI v3)), (4, .int (zI v4))]) dX11_against_255 (Nat.le_of_ble_eq_true rfl) rfl ?_
        refine g_iload_n (pc := 257) C 4 dX11_against_257 rfl rfl ?_
        refine g_iload (pc := 258) C 0 dX11_against_258 rfl ?_
        refine g_if_eq (pc := 260) C (tgt := 267) dX11_against_260 (by decide) hf (fun hf => ?_) (fun hf => ?_)
        · refine g_iconst (pc := 267) C dX11_against_267 ?_
          refine g_sub [0, 1, 2, 3, 4, 5, 6, 7, 8] [1, 2, 3, 5] (by decide) rfl rfl rfl ?_
          exact H268 _ _ _ hf
        · refine g_iconst (pc := 263) C dX11_against_263 ?_
          refine g_goto (pc := 264) C (tgt := 268) dX11_against_264 (by decide) ?_
          refine g_sub [0, 1, 2, 3, 4, 5, 6, 7, 8] [1, 2, 3, 5] (by decide) rfl rfl rfl ?_
          exact H268 _ _ _ hf
      have H226 : ∀ (v3 : Int) (v4 : Int), fX11_against_226 (zlp (fX11_against_166 v1 v2 mo_trips mo_tripFrom mo_tripTo mo_driving) n166) v3 v4 = some Ro → Zd D Γ 0 0 [((aMo 0), .inr (11, [.ref (aMo 1), .int (zI mo_taped), .ref (aMo 3), .ref (aMo 4), .ref (aMo 5), .ref (aMo 6), .ref (aMo 7), .ref (aMo 8), .ref (aMo 9), .ref (aMo 10), .ref (aMo 11), .ref (aMo 12), .ref (aMo 13), .ref (aMo 14), .ref (aMo 15), .ref (aMo 16), .int (zI mo_size), .int (zI mo_runs), .ref (aMo 19), .ref (aMo 20), .ref (aMo 21), .int (zI mo_found), .int (zI mo_counted), .int (zI mo_isParted), .ref (aMo 25), .ref (aMo 26), .ref (aMo 27), .ref (aMo 28), .ref (aMo 29), .int (zI mo_maybes), .int (zI mo_days), .int (zI mo_over2), .int (zI mo_longer), .ref (aMo 34)])), ((aMo 5), .inl (ca 0, 4, .inl (zA mo_acts))), ((aMo 7), .inl (ca 0, 240, .inl (zA mo_kindOf))), ((aMo 8), .inl (ca 0, 240, .inl (zA mo_lengthOf))), ((aMo 9), .inl (ca 0, 240, .inl (zA mo_vehicleOf))), ((aMo 10), .inl (ca 0, 2, .inl (zA mo_trips))), ((aMo 11), .inl (ca 0, 40, .inl (zA mo_tripFrom))), ((aMo 12), .inl (ca 0, 40, .inl (zA mo_tripTo))), ((aMo 34), .inl (ca 0, 20160, .inl (zA mo_driving)))] 226 [(0, .ref (aMo 0)), (1, .int (zI v1)), (2, .int (zI v2)), (3, .int (zI v3)), (4, .int (zI v4))] [] := by
        intro v3 v4 hf
        unfold fX11_against_226 at hf
        refine g_iconst (pc := 226) C dX11_against_226 ?_
        refine g_goto (pc := 227) C (tgt := 255) dX11_against_227 (by decide) ?_
        exact H255 _ _ _ hf
      have H254 : ∀ (v3 : Int) (v4 : Int), fX11_against_254 (zlp (fX11_against_166 v1 v2 mo_trips mo_tripFrom mo_tripTo mo_driving) n166) v3 v4 = some Ro → Zd D Γ 0 0 [((aMo 0), .inr (11, [.ref (aMo 1), .int (zI mo_taped), .ref (aMo 3), .ref (aMo 4), .ref (aMo 5), .ref (aMo 6), .ref (aMo 7), .ref (aMo 8), .ref (aMo 9), .ref (aMo 10), .ref (aMo 11), .ref (aMo 12), .ref (aMo 13), .ref (aMo 14), .ref (aMo 15), .ref (aMo 16), .int (zI mo_size), .int (zI mo_runs), .ref (aMo 19), .ref (aMo 20), .ref (aMo 21), .int (zI mo_found), .int (zI mo_counted), .int (zI mo_isParted), .ref (aMo 25), .ref (aMo 26), .ref (aMo 27), .ref (aMo 28), .ref (aMo 29), .int (zI mo_maybes), .int (zI mo_days), .int (zI mo_over2), .int (zI mo_longer), .ref (aMo 34)])), ((aMo 5), .inl (ca 0, 4, .inl (zA mo_acts))), ((aMo 7), .inl (ca 0, 240, .inl (zA mo_kindOf))), ((aMo 8), .inl (ca 0, 240, .inl (zA mo_lengthOf))), ((aMo 9), .inl (ca 0, 240, .inl (zA mo_vehicleOf))), ((aMo 10), .inl (ca 0, 2, .inl (zA mo_trips))), ((aMo 11), .inl (ca 0, 40, .inl (zA mo_tripFrom))), ((aMo 12), .inl (ca 0, 40, .inl (zA mo_tripTo))), ((aMo 34), .inl (ca 0, 20160, .inl (zA mo_driving)))] 254 [(0, .ref (aMo 0)), (1, .int (zI v1)), (2, .int (zI v2)), (3, .int (zI v3)), (4, .int (zI v4))] [] := by
        intro v3 v4 hf
        unfold fX11_against_254 at hf
        refine g_iconst (pc := 254) C dX11_against_254 ?_
        exact H255 _ _ _ hf
      intro v3 v4 hf
      rw [zlp_s] at hf
      unfold fX11_against_166 at hf
      dsimp only at hf
      refine g_iload (pc := 166) C 4 dX11_against_166 rfl ?_
      refine g_sipush (pc := 168) C dX11_against_168 (by decide) ?_
      refine g_icmp_ger (pc := 171) C (tgt := 276) dX11_against_171 (by decide) (by decide) hf (fun hf => ?_) (fun hf => ?_)
      · refine g_iload_n (pc := 276) C 3 dX11_against_276 rfl rfl ?_
        exact g_iret (pc := 277) C hf E rfl (fun _ => 0) [0, 1, 2, 3, 4, 5, 6, 7, 8] (by decide) rfl rfl (Nat.le_refl _) (Nat.le_refl _) dX11_against_277
      · refine g_iload_n (pc := 174) C 2 dX11_against_174 rfl rfl ?_
        refine g_iconst (pc := 175) C dX11_against_175 ?_
        refine g_icmp_ner (pc := 176) C (tgt := 198) dX11_against_176 (by decide) (by decide) hf (fun hf => ?_) (fun hf => ?_)
        · refine g_iload_n (pc := 198) C 2 dX11_against_198 rfl rfl ?_
          refine g_if_ne (pc := 199) C (tgt := 230) dX11_against_199 (by decide) hf (fun hf => ?_) (fun hf => ?_)
          · refine g_aload_n (pc := 230) C 0 dX11_against_230 rfl rfl ?_
            refine g_get (pc := 231) C zf_X11_81 0 rfl rfl dX11_against_231 ?_
            refine g_iload (pc := 234) C 4 dX11_against_234 rfl ?_
            refine g_iald (pc := 236) C (N := 20160) 8 rfl rfl (Nat.le_of_ble_eq_true rfl) dX11_against_236 hf (fun hf => ?_)
            refine g_if_le (pc := 237) C (tgt := 254) dX11_against_237 (by decide) hf (fun hf => ?_) (fun hf => ?_)
            · exact H254 _ _ hf
            · refine g_aload_n (pc := 240) C 0 dX11_against_240 rfl rfl ?_
              refine g_iload_n (pc := 241) C 1 dX11_against_241 rfl rfl ?_
              refine g_iload (pc := 242) C 4 dX11_against_242 rfl ?_
              obtain ⟨r_244, hc_244, hf⟩ := Option.bind_eq_some_iff.mp hf
              refine g_callV (pc := 244) C hl0 (wr := [((aMo 5), .inl (ca 0, 4, .inl (zA mo_acts))), ((aMo 7), .inl (ca 0, 240, .inl (zA mo_kindOf))), ((aMo 8), .inl (ca 0, 240, .inl (zA mo_lengthOf))), ((aMo 9), .inl (ca 0, 240, .inl (zA mo_vehicleOf))), ((aMo 34), .inl (ca 0, 20160, .inl (zA mo_driving)))]) (k' := 0) (n' := 0) (ws' := fun _ => [((aMo 5), .inl (ca 0, 4, .inl (zA mo_acts))), ((aMo 7), .inl (ca 0, 240, .inl (zA mo_kindOf))), ((aMo 8), .inl (ca 0, 240, .inl (zA mo_lengthOf))), ((aMo 9), .inl (ca 0, 240, .inl (zA mo_vehicleOf))), ((aMo 34), .inl (ca 0, 20160, .inl (zA mo_driving))), ((aMo 0), .inr (11, [.ref (aMo 1), .int (zI mo_taped), .ref (aMo 3), .ref (aMo 4), .ref (aMo 5), .ref (aMo 6), .ref (aMo 7), .ref (aMo 8), .ref (aMo 9), .ref (aMo 10), .ref (aMo 11), .ref (aMo 12), .ref (aMo 13), .ref (aMo 14), .ref (aMo 15), .ref (aMo 16), .int (zI mo_size), .int (zI mo_runs), .ref (aMo 19), .ref (aMo 20), .ref (aMo 21), .int (zI mo_found), .int (zI mo_counted), .int (zI mo_isParted), .ref (aMo 25), .ref (aMo 26), .ref (aMo 27), .ref (aMo 28), .ref (aMo 29), .int (zI mo_maybes), .int (zI mo_days), .int (zI mo_over2), .int (zI mo_longer), .ref (aMo 34)])), ((aMo 10), .inl (ca 0, 2, .inl (zA mo_trips))), ((aMo 11), .inl (ca 0, 40, .inl (zA mo_tripFrom))), ((aMo 12), .inl (ca 0, 40, .inl (zA mo_tripTo)))]) (st' := [.int (zI r_244)]) (kX11_isOnTrip l D ca aMo mo_taped mo_trips mo_tripFrom mo_tripTo mo_size mo_runs mo_found mo_counted mo_isParted mo_maybes mo_days mo_over2 mo_longer v1 v4 r_244 hc_244) wml_RX11_232 wim_X11_isOnTrip wse_X11_isOnTrip win_RX11 wco_X11_isOnTrip (nA := 2) rfl (by decide +kernel)  ⟨(Nat.le_of_ble_eq_true rfl), (Nat.le_of_ble_eq_true rfl)⟩ (Nat.le_refl _) (Nat.le_refl _) rfl (Nat.le_of_ble_eq_true rfl) dX11_against_244 0 11 rfl rfl rfl [0, 5, 6, 7] [1, 2, 3, 4, 8] rfl rfl rfl (by decide) (by decide) (by decide) rfl rfl (fun _ => rfl) rfl (fun _ => ?_)
              refine g_if_ne (pc := 247) C (tgt := 254) dX11_against_247 (by decide) hf (fun hf => ?_) (fun hf => ?_)
              · refine g_sub [5, 0, 1, 2, 3, 6, 7, 8, 4] [0, 1, 2, 3, 4] (by decide) rfl rfl rfl ?_
                exact H254 _ _ hf
              · refine g_iconst (pc := 250) C dX11_against_250 ?_
                refine g_goto (pc := 251) C (tgt := 255) dX11_against_251 (by decide) ?_
                refine g_sub [5, 0, 1, 2, 3, 6, 7, 8, 4] [0, 1, 2, 3, 4] (by decide) rfl rfl rfl ?_
                exact H255 _ _ _ hf
          · refine g_aload_n (pc := 202) C 0 dX11_against_202 rfl rfl ?_
            refine g_get (pc := 203) C zf_X11_81 0 rfl rfl dX11_against_203 ?_
            refine g_iload (pc := 206) C 4 dX11_against_206 rfl ?_
            refine g_iald (pc := 208) C (N := 20160) 8 rfl rfl (Nat.le_of_ble_eq_true rfl) dX11_against_208 hf (fun hf => ?_)
            refine g_if_ne (pc := 209) C (tgt := 226) dX11_against_209 (by decide) hf (fun hf => ?_) (fun hf => ?_)
            · exact H226 _ _ hf
            · refine g_aload_n (pc := 212) C 0 dX11_against_212 rfl rfl ?_
              refine g_iload_n (pc := 213) C 1 dX11_against_213 rfl rfl ?_
              refine g_iload (pc := 214) C 4 dX11_against_214 rfl ?_
              obtain ⟨r_216, hc_216, hf⟩ := Option.bind_eq_some_iff.mp hf
              refine g_callV (pc := 216) C hl0 (wr := [((aMo 5), .inl (ca 0, 4, .inl (zA mo_acts))), ((aMo 7), .inl (ca 0, 240, .inl (zA mo_kindOf))), ((aMo 8), .inl (ca 0, 240, .inl (zA mo_lengthOf))), ((aMo 9), .inl (ca 0, 240, .inl (zA mo_vehicleOf))), ((aMo 34), .inl (ca 0, 20160, .inl (zA mo_driving)))]) (k' := 0) (n' := 0) (ws' := fun _ => [((aMo 5), .inl (ca 0, 4, .inl (zA mo_acts))), ((aMo 7), .inl (ca 0, 240, .inl (zA mo_kindOf))), ((aMo 8), .inl (ca 0, 240, .inl (zA mo_lengthOf))), ((aMo 9), .inl (ca 0, 240, .inl (zA mo_vehicleOf))), ((aMo 34), .inl (ca 0, 20160, .inl (zA mo_driving))), ((aMo 0), .inr (11, [.ref (aMo 1), .int (zI mo_taped), .ref (aMo 3), .ref (aMo 4), .ref (aMo 5), .ref (aMo 6), .ref (aMo 7), .ref (aMo 8), .ref (aMo 9), .ref (aMo 10), .ref (aMo 11), .ref (aMo 12), .ref (aMo 13), .ref (aMo 14), .ref (aMo 15), .ref (aMo 16), .int (zI mo_size), .int (zI mo_runs), .ref (aMo 19), .ref (aMo 20), .ref (aMo 21), .int (zI mo_found), .int (zI mo_counted), .int (zI mo_isParted), .ref (aMo 25), .ref (aMo 26), .ref (aMo 27), .ref (aMo 28), .ref (aMo 29), .int (zI mo_maybes), .int (zI mo_days), .int (zI mo_over2), .int (zI mo_longer), .ref (aMo 34)])), ((aMo 10), .inl (ca 0, 2, .inl (zA mo_trips))), ((aMo 11), .inl (ca 0, 40, .inl (zA mo_tripFrom))), ((aMo 12), .inl (ca 0, 40, .inl (zA mo_tripTo)))]) (st' := [.int (zI r_216)]) (kX11_isOnTrip l D ca aMo mo_taped mo_trips mo_tripFrom mo_tripTo mo_size mo_runs mo_found mo_counted mo_isParted mo_maybes mo_days mo_over2 mo_longer v1 v4 r_216 hc_216) wml_RX11_232 wim_X11_isOnTrip wse_X11_isOnTrip win_RX11 wco_X11_isOnTrip (nA := 2) rfl (by decide +kernel)  ⟨(Nat.le_of_ble_eq_true rfl), (Nat.le_of_ble_eq_true rfl)⟩ (Nat.le_refl _) (Nat.le_refl _) rfl (Nat.le_of_ble_eq_true rfl) dX11_against_216 0 11 rfl rfl rfl [0, 5, 6, 7] [1, 2, 3, 4, 8] rfl rfl rfl (by decide) (by decide) (by decide) rfl rfl (fun _ => rfl) rfl (fun _ => ?_)
              refine g_if_eq (pc := 219) C (tgt := 226) dX11_against_219 (by decide) hf (fun hf => ?_) (fun hf => ?_)
              · refine g_sub [5, 0, 1, 2, 3, 6, 7, 8, 4] [0, 1, 2, 3, 4] (by decide) rfl rfl rfl ?_
                exact H226 _ _ hf
              · refine g_iconst (pc := 222) C dX11_against_222 ?_
                refine g_goto (pc := 223) C (tgt := 255) dX11_against_223 (by decide) ?_
                refine g_sub [5, 0, 1, 2, 3, 6, 7, 8, 4] [0, 1, 2, 3, 4] (by decide) rfl rfl rfl ?_
                exact H255 _ _ _ hf
        · refine g_aload_n (pc := 179) C 0 dX11_against_179 rfl rfl ?_
          refine g_get (pc := 180) C zf_X11_81 0 rfl rfl dX11_against_180 ?_
          refine g_iload (pc := 183) C 4 dX11_against_183 rfl ?_
          refine g_iald (pc := 185) C (N := 20160) 8 rfl rfl (Nat.le_of_ble_eq_true rfl) dX11_against_185 hf (fun hf => ?_)
          refine g_iconst (pc := 186) C dX11_against_186 ?_
          refine g_icmp_ltr (pc := 187) C (tgt := 194) dX11_against_187 (by decide) (by decide) hf (fun hf => ?_) (fun hf => ?_)
          · refine g_iconst (pc := 194) C dX11_against_194 ?_
            refine g_goto (pc := 195) C (tgt := 255) dX11_against_195 (by decide) ?_
            exact H255 _ _ _ hf
          · refine g_iconst (pc := 190) C dX11_against_190 ?_
            refine g_goto (pc := 191) C (tgt := 255) dX11_against_191 (by decide) ?_
            exact H255 _ _ _ hf
  have H44 : ∀  (n44 : Nat) (v3 : Int) (mo_driving : Nat → Int), zlp (fX11_against_44 v1 v2 mo_acts mo_kindOf mo_lengthOf mo_vehicleOf mo_trips mo_tripFrom mo_tripTo) n44 (v3, mo_driving) = some Ro → Zd D Γ 0 0 [((aMo 0), .inr (11, [.ref (aMo 1), .int (zI mo_taped), .ref (aMo 3), .ref (aMo 4), .ref (aMo 5), .ref (aMo 6), .ref (aMo 7), .ref (aMo 8), .ref (aMo 9), .ref (aMo 10), .ref (aMo 11), .ref (aMo 12), .ref (aMo 13), .ref (aMo 14), .ref (aMo 15), .ref (aMo 16), .int (zI mo_size), .int (zI mo_runs), .ref (aMo 19), .ref (aMo 20), .ref (aMo 21), .int (zI mo_found), .int (zI mo_counted), .int (zI mo_isParted), .ref (aMo 25), .ref (aMo 26), .ref (aMo 27), .ref (aMo 28), .ref (aMo 29), .int (zI mo_maybes), .int (zI mo_days), .int (zI mo_over2), .int (zI mo_longer), .ref (aMo 34)])), ((aMo 5), .inl (ca 0, 4, .inl (zA mo_acts))), ((aMo 7), .inl (ca 0, 240, .inl (zA mo_kindOf))), ((aMo 8), .inl (ca 0, 240, .inl (zA mo_lengthOf))), ((aMo 9), .inl (ca 0, 240, .inl (zA mo_vehicleOf))), ((aMo 10), .inl (ca 0, 2, .inl (zA mo_trips))), ((aMo 11), .inl (ca 0, 40, .inl (zA mo_tripFrom))), ((aMo 12), .inl (ca 0, 40, .inl (zA mo_tripTo))), ((aMo 34), .inl (ca 0, 20160, .inl (zA mo_driving)))] 44 [(0, .ref (aMo 0)), (1, .int (zI v1)), (2, .int (zI v2)), (3, .int (zI v3))] [] := by
    intro n44
    induction n44 with
    | zero =>
      intro v3 mo_driving hf
      exact zno hf
    | succ n44 ih44 =>
      have H55 : ∀ (v3 : Int) (n55 : Nat) (v4 : Int) (v5 : Int) (mo_driving : Nat → Int), zlp (fX11_against_55 (zlp (fX11_against_44 v1 v2 mo_acts mo_kindOf mo_lengthOf mo_vehicleOf mo_trips mo_tripFrom mo_tripTo) n44) v1 v3 mo_acts mo_kindOf mo_lengthOf mo_vehicleOf) n55 (v4, v5, mo_driving) = some Ro → Zd D Γ 0 0 [((aMo 0), .inr (11, [.ref (aMo 1), .int (zI mo_taped), .ref (aMo 3), .ref (aMo 4), .ref (aMo 5), .ref (aMo 6), .ref (aMo 7), .ref (aMo 8), .ref (aMo 9), .ref (aMo 10), .ref (aMo 11), .ref (aMo 12), .ref (aMo 13), .ref (aMo 14), .ref (aMo 15), .ref (aMo 16), .int (zI mo_size), .int (zI mo_runs), .ref (aMo 19), .ref (aMo 20), .ref (aMo 21), .int (zI mo_found), .int (zI mo_counted), .int (zI mo_isParted), .ref (aMo 25), .ref (aMo 26), .ref (aMo 27), .ref (aMo 28), .ref (aMo 29), .int (zI mo_maybes), .int (zI mo_days), .int (zI mo_over2), .int (zI mo_longer), .ref (aMo 34)])), ((aMo 5), .inl (ca 0, 4, .inl (zA mo_acts))), ((aMo 7), .inl (ca 0, 240, .inl (zA mo_kindOf))), ((aMo 8), .inl (ca 0, 240, .inl (zA mo_lengthOf))), ((aMo 9), .inl (ca 0, 240, .inl (zA mo_vehicleOf))), ((aMo 10), .inl (ca 0, 2, .inl (zA mo_trips))), ((aMo 11), .inl (ca 0, 40, .inl (zA mo_tripFrom))), ((aMo 12), .inl (ca 0, 40, .inl (zA mo_tripTo))), ((aMo 34), .inl (ca 0, 20160, .inl (zA mo_driving)))] 55 [(0, .ref (aMo 0)), (1, .int (zI v1)), (2, .int (zI v2)), (3, .int (zI v3)), (4, .int (zI v4)), (5, .int (zI v5))] [] := by
        intro v3
        intro n55
        induction n55 with
        | zero =>
          intro v4 v5 mo_driving hf
          exact zno hf
        | succ n55 ih55 =>
          have H137 : ∀ (v4 : Int) (v5 : Int) (v6 : Int) (mo_driving : Nat → Int), fX11_against_137 (zlp (fX11_against_55 (zlp (fX11_against_44 v1 v2 mo_acts mo_kindOf mo_lengthOf mo_vehicleOf mo_trips mo_tripFrom mo_tripTo) n44) v1 v3 mo_acts mo_kindOf mo_lengthOf mo_vehicleOf) n55) v4 v5 v6 mo_lengthOf mo_driving = some Ro → Zd D Γ 0 0 [((aMo 0), .inr (11, [.ref (aMo 1), .int (zI mo_taped), .ref (aMo 3), .ref (aMo 4), .ref (aMo 5), .ref (aMo 6), .ref (aMo 7), .ref (aMo 8), .ref (aMo 9), .ref (aMo 10), .ref (aMo 11), .ref (aMo 12), .ref (aMo 13), .ref (aMo 14), .ref (aMo 15), .ref (aMo 16), .int (zI mo_size), .int (zI mo_runs), .ref (aMo 19), .ref (aMo 20), .ref (aMo 21), .int (zI mo_found), .int (zI mo_counted), .int (zI mo_isParted), .ref (aMo 25), .ref (aMo 26), .ref (aMo 27), .ref (aMo 28), .ref (aMo 29), .int (zI mo_maybes), .int (zI mo_days), .int (zI mo_over2), .int (zI mo_longer), .ref (aMo 34)])), ((aMo 5), .inl (ca 0, 4, .inl (zA mo_acts))), ((aMo 7), .inl (ca 0, 240, .inl (zA mo_kindOf))), ((aMo 8), .inl (ca 0, 240, .inl (zA mo_lengthOf))), ((aMo 9), .inl (ca 0, 240, .inl (zA mo_vehicleOf))), ((aMo 10), .inl (ca 0, 2, .inl (zA mo_trips))), ((aMo 11), .inl (ca 0, 40, .inl (zA mo_tripFrom))), ((aMo 12), .inl (ca 0, 40, .inl (zA mo_tripTo))), ((aMo 34), .inl (ca 0, 20160, .inl (zA mo_driving)))] 137 [(0, .ref (aMo 0)), (1, .int (zI v1)), (2, .int (zI v2)), (3, .int (zI v3)), (4, .int (zI v4)), (5, .int (zI v5)), (6, .int (zI v6))] [] := by
            intro v4 v5 v6 mo_driving hf
            unfold fX11_against_137 at hf
            refine g_iload (pc := 137) C 4 dX11_against_137 rfl ?_
            refine g_aload_n (pc := 139) C 0 dX11_against_139 rfl rfl ?_
            refine g_get (pc := 140) C zf_X11_29 0 rfl rfl dX11_against_140 ?_
            refine g_iload (pc := 143) C 6 dX11_against_143 rfl ?_
            refine g_iald (pc := 145) C (N := 240) 3 rfl rfl (Nat.le_of_ble_eq_true rfl) dX11_against_145 hf (fun hf => ?_)
            refine g_iadd (pc := 146) C dX11_against_146 ?_
            refine g_istore (pc := 147) C (lv' := [(4, .int (zI (v4 + (mo_lengthOf v6.toNat)))), (0, .ref (aMo 0)), (1, .int (zI v1)), (2, .int (zI v2)), (3, .int (zI v3)), (5, .int (zI v5)), (6, .int (zI v6))]) dX11_against_147 (Nat.le_of_ble_eq_true rfl) rfl ?_
            refine g_iinc (pc := 149) C 5 (lv' := [(5, .int (zI (v5 + 1))), (4, .int (zI (v4 + (mo_lengthOf v6.toNat)))), (0, .ref (aMo 0)), (1, .int (zI v1)), (2, .int (zI v2)), (3, .int (zI v3)), (6, .int (zI v6))]) dX11_against_149 rfl (Nat.le_of_ble_eq_true rfl) rfl ?_
            refine g_goto (pc := 152) C (tgt := 55) dX11_against_152 (by decide) ?_
            refine g_sub [0, 1, 2, 3, 4, 5, 6, 7, 8] [2, 3, 4, 5, 1, 0] (by decide) rfl rfl rfl ?_
            exact ih55 _ _ _ hf
          have H79 : ∀ (v4 : Int) (v5 : Int) (v6 : Int) (n79 : Nat) (v7 : Int) (mo_driving : Nat → Int), zlp (fX11_against_79 (zlp (fX11_against_55 (zlp (fX11_against_44 v1 v2 mo_acts mo_kindOf mo_lengthOf mo_vehicleOf mo_trips mo_tripFrom mo_tripTo) n44) v1 v3 mo_acts mo_kindOf mo_lengthOf mo_vehicleOf) n55) v1 v4 v5 v6 mo_kindOf mo_lengthOf mo_vehicleOf) n79 (v7, mo_driving) = some Ro → Zd D Γ 0 0 [((aMo 0), .inr (11, [.ref (aMo 1), .int (zI mo_taped), .ref (aMo 3), .ref (aMo 4), .ref (aMo 5), .ref (aMo 6), .ref (aMo 7), .ref (aMo 8), .ref (aMo 9), .ref (aMo 10), .ref (aMo 11), .ref (aMo 12), .ref (aMo 13), .ref (aMo 14), .ref (aMo 15), .ref (aMo 16), .int (zI mo_size), .int (zI mo_runs), .ref (aMo 19), .ref (aMo 20), .ref (aMo 21), .int (zI mo_found), .int (zI mo_counted), .int (zI mo_isParted), .ref (aMo 25), .ref (aMo 26), .ref (aMo 27), .ref (aMo 28), .ref (aMo 29), .int (zI mo_maybes), .int (zI mo_days), .int (zI mo_over2), .int (zI mo_longer), .ref (aMo 34)])), ((aMo 5), .inl (ca 0, 4, .inl (zA mo_acts))), ((aMo 7), .inl (ca 0, 240, .inl (zA mo_kindOf))), ((aMo 8), .inl (ca 0, 240, .inl (zA mo_lengthOf))), ((aMo 9), .inl (ca 0, 240, .inl (zA mo_vehicleOf))), ((aMo 10), .inl (ca 0, 2, .inl (zA mo_trips))), ((aMo 11), .inl (ca 0, 40, .inl (zA mo_tripFrom))), ((aMo 12), .inl (ca 0, 40, .inl (zA mo_tripTo))), ((aMo 34), .inl (ca 0, 20160, .inl (zA mo_driving)))] 79 [(0, .ref (aMo 0)), (1, .int (zI v1)), (2, .int (zI v2)), (3, .int (zI v3)), (4, .int (zI v4)), (5, .int (zI v5)), (6, .int (zI v6)), (7, .int (zI v7))] [] := by
            intro v4 v5 v6
            intro n79
            induction n79 with
            | zero =>
              intro v7 mo_driving hf
              exact zno hf
            | succ n79 ih79 =>
              intro v7 mo_driving hf
              rw [zlp_s] at hf
              unfold fX11_against_79 at hf
              dsimp only at hf
              refine g_iload (pc := 79) C 7 dX11_against_79 rfl ?_
              refine g_iload (pc := 81) C 4 dX11_against_81 rfl ?_
              refine g_aload_n (pc := 83) C 0 dX11_against_83 rfl rfl ?_
              refine g_get (pc := 84) C zf_X11_29 0 rfl rfl dX11_against_84 ?_
              refine g_iload (pc := 87) C 6 dX11_against_87 rfl ?_
              refine g_iald (pc := 89) C (N := 240) 3 rfl rfl (Nat.le_of_ble_eq_true rfl) dX11_against_89 hf (fun hf => ?_)
              refine g_iadd (pc := 90) C dX11_against_90 ?_
              refine g_icmp_ge (pc := 91) C (tgt := 137) dX11_against_91 (by decide) hf (fun hf => ?_) (fun hf => ?_)
              · refine g_sub [0, 1, 2, 3, 4, 5, 6, 7, 8] [0, 1, 2, 3, 4, 5, 6] (by decide) rfl rfl rfl ?_
                exact H137 _ _ _ _ hf
              · refine g_aload_n (pc := 94) C 0 dX11_against_94 rfl rfl ?_
                refine g_get (pc := 95) C zf_X11_26 0 rfl rfl dX11_against_95 ?_
                refine g_iload (pc := 98) C 6 dX11_against_98 rfl ?_
                refine g_iald (pc := 100) C (N := 240) 2 rfl rfl (Nat.le_of_ble_eq_true rfl) dX11_against_100 hf (fun hf => ?_)
                refine g_if_ne (pc := 101) C (tgt := 137) dX11_against_101 (by decide) hf (fun hf => ?_) (fun hf => ?_)
                · refine g_sub [0, 1, 2, 3, 4, 5, 6, 7, 8] [0, 1, 2, 3, 4, 5, 6] (by decide) rfl rfl rfl ?_
                  exact H137 _ _ _ _ hf
                · refine g_aload_n (pc := 104) C 0 dX11_against_104 rfl rfl ?_
                  refine g_get (pc := 105) C zf_X11_32 0 rfl rfl dX11_against_105 ?_
                  refine g_iload (pc := 108) C 6 dX11_against_108 rfl ?_
                  refine g_iald (pc := 110) C (N := 240) 4 rfl rfl (Nat.le_of_ble_eq_true rfl) dX11_against_110 hf (fun hf => ?_)
                  refine g_iload_n (pc := 111) C 1 dX11_against_111 rfl rfl ?_
                  refine g_icmp_ne (pc := 112) C (tgt := 137) dX11_against_112 (by decide) hf (fun hf => ?_) (fun hf => ?_)
                  · refine g_sub [0, 1, 2, 3, 4, 5, 6, 7, 8] [0, 1, 2, 3, 4, 5, 6] (by decide) rfl rfl rfl ?_
                    exact H137 _ _ _ _ hf
                  · refine g_aload_n (pc := 115) C 0 dX11_against_115 rfl rfl ?_
                    refine g_get (pc := 116) C zf_X11_81 0 rfl rfl dX11_against_116 ?_
                    refine g_iload (pc := 119) C 7 dX11_against_119 rfl ?_
                    refine g_aload_n (pc := 121) C 0 dX11_against_121 rfl rfl ?_
                    refine g_get (pc := 122) C zf_X11_81 0 rfl rfl dX11_against_122 ?_
                    refine g_iload (pc := 125) C 7 dX11_against_125 rfl ?_
                    refine g_iald (pc := 127) C (N := 20160) 8 rfl rfl (Nat.le_of_ble_eq_true rfl) dX11_against_127 hf (fun hf => ?_)
                    refine g_iconst (pc := 128) C dX11_against_128 ?_
                    refine g_iadd (pc := 129) C dX11_against_129 ?_
                    refine g_iast (pc := 130) C (N := 20160) (ws' := [((aMo 0), .inr (11, [.ref (aMo 1), .int (zI mo_taped), .ref (aMo 3), .ref (aMo 4), .ref (aMo 5), .ref (aMo 6), .ref (aMo 7), .ref (aMo 8), .ref (aMo 9), .ref (aMo 10), .ref (aMo 11), .ref (aMo 12), .ref (aMo 13), .ref (aMo 14), .ref (aMo 15), .ref (aMo 16), .int (zI mo_size), .int (zI mo_runs), .ref (aMo 19), .ref (aMo 20), .ref (aMo 21), .int (zI mo_found), .int (zI mo_counted), .int (zI mo_isParted), .ref (aMo 25), .ref (aMo 26), .ref (aMo 27), .ref (aMo 28), .ref (aMo 29), .int (zI mo_maybes), .int (zI mo_days), .int (zI mo_over2), .int (zI mo_longer), .ref (aMo 34)])), ((aMo 5), .inl (ca 0, 4, .inl (zA mo_acts))), ((aMo 7), .inl (ca 0, 240, .inl (zA mo_kindOf))), ((aMo 8), .inl (ca 0, 240, .inl (zA mo_lengthOf))), ((aMo 9), .inl (ca 0, 240, .inl (zA mo_vehicleOf))), ((aMo 10), .inl (ca 0, 2, .inl (zA mo_trips))), ((aMo 11), .inl (ca 0, 40, .inl (zA mo_tripFrom))), ((aMo 12), .inl (ca 0, 40, .inl (zA mo_tripTo))), ((aMo 34), .inl (ca 0, 20160, .inl (zA (zU mo_driving v7.toNat ((mo_driving v7.toNat) + 1)))))]) 8 rfl rfl (Nat.le_of_ble_eq_true rfl) rfl dX11_against_130 hf (fun hf => ?_)
                    refine g_iinc (pc := 131) C 7 (lv' := [(7, .int (zI (v7 + 1))), (0, .ref (aMo 0)), (1, .int (zI v1)), (2, .int (zI v2)), (3, .int (zI v3)), (4, .int (zI v4)), (5, .int (zI v5)), (6, .int (zI v6))]) dX11_against_131 rfl (Nat.le_of_ble_eq_true rfl) rfl ?_
                    refine g_goto (pc := 134) C (tgt := 79) dX11_against_134 (by decide) ?_
                    refine g_sub [0, 1, 2, 3, 4, 5, 6, 7, 8] [1, 2, 3, 4, 5, 6, 7, 0] (by decide) rfl rfl rfl ?_
                    exact ih79 _ _ hf
          intro v4 v5 mo_driving hf
          rw [zlp_s] at hf
          unfold fX11_against_55 at hf
          dsimp only at hf
          refine g_iload (pc := 55) C 5 dX11_against_55 rfl ?_
          refine g_aload_n (pc := 57) C 0 dX11_against_57 rfl rfl ?_
          refine g_get (pc := 58) C zf_X11_20 0 rfl rfl dX11_against_58 ?_
          refine g_iload_n (pc := 61) C 3 dX11_against_61 rfl rfl ?_
          refine g_iald (pc := 62) C (N := 4) 1 rfl rfl (Nat.le_of_ble_eq_true rfl) dX11_against_62 hf (fun hf => ?_)
          refine g_icmp_ge (pc := 63) C (tgt := 155) dX11_against_63 (by decide) hf (fun hf => ?_) (fun hf => ?_)
          · refine g_iinc (pc := 155) C 3 (lv' := [(3, .int (zI (v3 + 1))), (0, .ref (aMo 0)), (1, .int (zI v1)), (2, .int (zI v2)), (4, .int (zI v4)), (5, .int (zI v5))]) dX11_against_155 rfl (Nat.le_of_ble_eq_true rfl) rfl ?_
            refine g_goto (pc := 158) C (tgt := 44) dX11_against_158 (by decide) ?_
            refine g_sub [0, 1, 2, 3, 4, 5, 6, 7, 8] [1, 2, 3, 0] (by decide) rfl rfl rfl ?_
            exact ih44 _ _ hf
          · refine g_bipush (pc := 66) C dX11_against_66 (by decide) ?_
            refine g_iload_n (pc := 68) C 3 dX11_against_68 rfl rfl ?_
            refine g_imul (pc := 69) C dX11_against_69 ?_
            refine g_iload (pc := 70) C 5 dX11_against_70 rfl ?_
            refine g_iadd (pc := 72) C dX11_against_72 ?_
            refine g_istore (pc := 73) C (lv' := [(6, .int (zI ((60 * v3) + v5))), (0, .ref (aMo 0)), (1, .int (zI v1)), (2, .int (zI v2)), (3, .int (zI v3)), (4, .int (zI v4)), (5, .int (zI v5))]) dX11_against_73 (Nat.le_of_ble_eq_true rfl) rfl ?_
            refine g_iload (pc := 75) C 5 dX11_against_75 rfl ?_
            refine g_istore (pc := 77) C (lv' := [(7, .int (zI v4)), (6, .int (zI ((60 * v3) + v5))), (0, .ref (aMo 0)), (1, .int (zI v1)), (2, .int (zI v2)), (3, .int (zI v3)), (4, .int (zI v4)), (5, .int (zI v5))]) dX11_against_77 (Nat.le_of_ble_eq_true rfl) rfl ?_
            refine g_sub [0, 1, 2, 3, 4, 5, 6, 7, 8] [2, 3, 4, 5, 6, 7, 1, 0] (by decide) rfl rfl rfl ?_
            exact H79 _ _ _ _ _ _ hf
      intro v3 mo_driving hf
      rw [zlp_s] at hf
      unfold fX11_against_44 at hf
      dsimp only at hf
      refine g_iload_n (pc := 44) C 3 dX11_against_44 rfl rfl ?_
      refine g_iconst (pc := 45) C dX11_against_45 ?_
      refine g_icmp_ger (pc := 46) C (tgt := 161) dX11_against_46 (by decide) (by decide) hf (fun hf => ?_) (fun hf => ?_)
      · refine g_iconst (pc := 161) C dX11_against_161 ?_
        refine g_istore_n (pc := 162) C (lv' := [(3, .int (zI 0)), (0, .ref (aMo 0)), (1, .int (zI v1)), (2, .int (zI v2))]) dX11_against_162 rfl (Nat.le_of_ble_eq_true rfl) rfl ?_
        refine g_iconst (pc := 163) C dX11_against_163 ?_
        refine g_istore (pc := 164) C (lv' := [(4, .int (zI 0)), (3, .int (zI 0)), (0, .ref (aMo 0)), (1, .int (zI v1)), (2, .int (zI v2))]) dX11_against_164 (Nat.le_of_ble_eq_true rfl) rfl ?_
        refine g_sub [0, 1, 2, 3, 4, 5, 6, 7, 8] [2, 3, 4, 1, 0] (by decide) rfl rfl rfl ?_
        exact H166 _ _ _ _ hf
      · refine g_iconst (pc := 49) C dX11_against_49 ?_
        refine g_istore (pc := 50) C (lv' := [(4, .int (zI 0)), (0, .ref (aMo 0)), (1, .int (zI v1)), (2, .int (zI v2)), (3, .int (zI v3))]) dX11_against_50 (Nat.le_of_ble_eq_true rfl) rfl ?_
        refine g_iconst (pc := 52) C dX11_against_52 ?_
        refine g_istore (pc := 53) C (lv' := [(5, .int (zI 0)), (4, .int (zI 0)), (0, .ref (aMo 0)), (1, .int (zI v1)), (2, .int (zI v2)), (3, .int (zI v3))]) dX11_against_53 (Nat.le_of_ble_eq_true rfl) rfl ?_
        refine g_sub [0, 1, 2, 3, 4, 5, 6, 7, 8] [2, 3, 4, 5, 1, 0] (by decide) rfl rfl rfl ?_
        exact H55 _ _ _ _ _ hf
  have H22 : ∀  (n22 : Nat) (v3 : Int) (mo_driving : Nat → Int), zlp (fX11_against_22 v1 v2 mo_acts mo_kindOf mo_lengthOf mo_vehicleOf mo_trips mo_tripFrom mo_tripTo) n22 (v3, mo_driving) = some Ro → Zd D Γ 0 0 [((aMo 0), .inr (11, [.ref (aMo 1), .int (zI mo_taped), .ref (aMo 3), .ref (aMo 4), .ref (aMo 5), .ref (aMo 6), .ref (aMo 7), .ref (aMo 8), .ref (aMo 9), .ref (aMo 10), .ref (aMo 11), .ref (aMo 12), .ref (aMo 13), .ref (aMo 14), .ref (aMo 15), .ref (aMo 16), .int (zI mo_size), .int (zI mo_runs), .ref (aMo 19), .ref (aMo 20), .ref (aMo 21), .int (zI mo_found), .int (zI mo_counted), .int (zI mo_isParted), .ref (aMo 25), .ref (aMo 26), .ref (aMo 27), .ref (aMo 28), .ref (aMo 29), .int (zI mo_maybes), .int (zI mo_days), .int (zI mo_over2), .int (zI mo_longer), .ref (aMo 34)])), ((aMo 5), .inl (ca 0, 4, .inl (zA mo_acts))), ((aMo 7), .inl (ca 0, 240, .inl (zA mo_kindOf))), ((aMo 8), .inl (ca 0, 240, .inl (zA mo_lengthOf))), ((aMo 9), .inl (ca 0, 240, .inl (zA mo_vehicleOf))), ((aMo 10), .inl (ca 0, 2, .inl (zA mo_trips))), ((aMo 11), .inl (ca 0, 40, .inl (zA mo_tripFrom))), ((aMo 12), .inl (ca 0, 40, .inl (zA mo_tripTo))), ((aMo 34), .inl (ca 0, 20160, .inl (zA mo_driving)))] 22 [(0, .ref (aMo 0)), (1, .int (zI v1)), (2, .int (zI v2)), (3, .int (zI v3))] [] := by
    intro n22
    induction n22 with
    | zero =>
      intro v3 mo_driving hf
      exact zno hf
    | succ n22 ih22 =>
      intro v3 mo_driving hf
      rw [zlp_s] at hf
      unfold fX11_against_22 at hf
      dsimp only at hf
      refine g_iload_n (pc := 22) C 3 dX11_against_22 rfl rfl ?_
      refine g_sipush (pc := 23) C dX11_against_23 (by decide) ?_
      refine g_icmp_ger (pc := 26) C (tgt := 42) dX11_against_26 (by decide) (by decide) hf (fun hf => ?_) (fun hf => ?_)
      · refine g_iconst (pc := 42) C dX11_against_42 ?_
        refine g_istore_n (pc := 43) C (lv' := [(3, .int (zI 0)), (0, .ref (aMo 0)), (1, .int (zI v1)), (2, .int (zI v2))]) dX11_against_43 rfl (Nat.le_of_ble_eq_true rfl) rfl ?_
        refine g_sub [0, 1, 2, 3, 4, 5, 6, 7, 8] [1, 2, 3, 0] (by decide) rfl rfl rfl ?_
        exact H44 _ _ _ hf
      · refine g_aload_n (pc := 29) C 0 dX11_against_29 rfl rfl ?_
        refine g_get (pc := 30) C zf_X11_81 0 rfl rfl dX11_against_30 ?_
        refine g_iload_n (pc := 33) C 3 dX11_against_33 rfl rfl ?_
        refine g_iconst (pc := 34) C dX11_against_34 ?_
        refine g_iast (pc := 35) C (N := 20160) (ws' := [((aMo 0), .inr (11, [.ref (aMo 1), .int (zI mo_taped), .ref (aMo 3), .ref (aMo 4), .ref (aMo 5), .ref (aMo 6), .ref (aMo 7), .ref (aMo 8), .ref (aMo 9), .ref (aMo 10), .ref (aMo 11), .ref (aMo 12), .ref (aMo 13), .ref (aMo 14), .ref (aMo 15), .ref (aMo 16), .int (zI mo_size), .int (zI mo_runs), .ref (aMo 19), .ref (aMo 20), .ref (aMo 21), .int (zI mo_found), .int (zI mo_counted), .int (zI mo_isParted), .ref (aMo 25), .ref (aMo 26), .ref (aMo 27), .ref (aMo 28), .ref (aMo 29), .int (zI mo_maybes), .int (zI mo_days), .int (zI mo_over2), .int (zI mo_longer), .ref (aMo 34)])), ((aMo 5), .inl (ca 0, 4, .inl (zA mo_acts))), ((aMo 7), .inl (ca 0, 240, .inl (zA mo_kindOf))), ((aMo 8), .inl (ca 0, 240, .inl (zA mo_lengthOf))), ((aMo 9), .inl (ca 0, 240, .inl (zA mo_vehicleOf))), ((aMo 10), .inl (ca 0, 2, .inl (zA mo_trips))), ((aMo 11), .inl (ca 0, 40, .inl (zA mo_tripFrom))), ((aMo 12), .inl (ca 0, 40, .inl (zA mo_tripTo))), ((aMo 34), .inl (ca 0, 20160, .inl (zA (zU mo_driving v3.toNat 0))))]) 8 rfl rfl (Nat.le_of_ble_eq_true rfl) rfl dX11_against_35 hf (fun hf => ?_)
        refine g_iinc (pc := 36) C 3 (lv' := [(3, .int (zI (v3 + 1))), (0, .ref (aMo 0)), (1, .int (zI v1)), (2, .int (zI v2))]) dX11_against_36 rfl (Nat.le_of_ble_eq_true rfl) rfl ?_
        refine g_goto (pc := 39) C (tgt := 22) dX11_against_39 (by decide) ?_
        refine g_sub [0, 1, 2, 3, 4, 5, 6, 7, 8] [1, 2, 3, 0] (by decide) rfl rfl rfl ?_
        exact ih22 _ _ hf
  unfold fX11_against at hf
  refine g_iload_n (pc := 0) C 1 dX11_against_0 rfl rfl ?_
  refine g_if_lt (pc := 1) C (tgt := 18) dX11_against_1 (by decide) hf (fun hf => ?_) (fun hf => ?_)
  · refine g_sub [0, 1, 2, 3, 4, 5, 6, 7, 8] [] (by decide) rfl rfl rfl ?_
    exact H18 _ hf
  · refine g_iload_n (pc := 4) C 1 dX11_against_4 rfl rfl ?_
    refine g_iconst (pc := 5) C dX11_against_5 ?_
    refine g_icmp_gtr (pc := 6) C (tgt := 18) dX11_against_6 (by decide) (by decide) hf (fun hf => ?_) (fun hf => ?_)
    · refine g_sub [0, 1, 2, 3, 4, 5, 6, 7, 8] [] (by decide) rfl rfl rfl ?_
      exact H18 _ hf
    · refine g_iload_n (pc := 9) C 2 dX11_against_9 rfl rfl ?_
      refine g_if_lt (pc := 10) C (tgt := 18) dX11_against_10 (by decide) hf (fun hf => ?_) (fun hf => ?_)
      · refine g_sub [0, 1, 2, 3, 4, 5, 6, 7, 8] [] (by decide) rfl rfl rfl ?_
        exact H18 _ hf
      · refine g_iload_n (pc := 13) C 2 dX11_against_13 rfl rfl ?_
        refine g_iconst (pc := 14) C dX11_against_14 ?_
        refine g_icmp_ler (pc := 15) C (tgt := 20) dX11_against_15 (by decide) (by decide) hf (fun hf => ?_) (fun hf => ?_)
        · refine g_iconst (pc := 20) C dX11_against_20 ?_
          refine g_istore_n (pc := 21) C (lv' := [(3, .int (zI 0)), (0, .ref (aMo 0)), (1, .int (zI v1)), (2, .int (zI v2))]) dX11_against_21 rfl (Nat.le_of_ble_eq_true rfl) rfl ?_
          refine g_sub [0, 1, 2, 3, 4, 5, 6, 7, 8] [1, 2, 3, 0] (by decide) rfl rfl rfl ?_
          exact H22 _ _ _ hf
        · refine g_sub [0, 1, 2, 3, 4, 5, 6, 7, 8] [] (by decide) rfl rfl rfl ?_
          exact H18 _ hf
def oX11_begins (ca : Nat → ClassId) (ap0 : Nat)  (Ro : (Nat → Int)) : (Nat → Nat) → va_W := fun _ => [(ap0, .inl (ca 0, 11, .inl (zA (Ro))))]
def oiX11_begins (Ro : (Nat → Int)) : Option Value := none
set_option maxRecDepth 100000 in
theorem kX11_begins (l : Launch) (D : va_G) (ca : Nat → ClassId) (ap0 : Nat) (p0 : Nat → Int)  (Ro : (Nat → Int))
    (hf : fX11_begins p0 = some Ro) : Zc l D ca yX11_begins cX11_begins 1 none { frames := 0, cells := 0, slots := 0, locals := 0 } [.ref ap0] [(ap0, .inl (ca 0, 11, .inl (zA p0)))] (oiX11_begins Ro) (oX11_begins ca ap0 Ro) := by
  refine ctr_of (lv := [(0, .ref ap0)]) (by decide +kernel) (Nat.le_of_ble_eq_true rfl) rfl (fun Γ hl0 C E hnm => ?_)
  unfold fX11_begins at hf
  refine g_aload_n (pc := 0) C 0 dX11_begins_0 rfl rfl ?_
  refine g_iconst (pc := 1) C dX11_begins_1 ?_
  refine g_sipush (pc := 2) C dX11_begins_2 (by decide) ?_
  refine g_iastK (pc := 5) C (ws' := [(ap0, .inl (ca 0, 11, .inl (zA (zU p0 0 270))))]) 0 0 rfl rfl (Nat.le_of_ble_eq_true rfl) (Nat.le_of_ble_eq_true rfl) rfl dX11_begins_5 ?_
  refine g_aload_n (pc := 6) C 0 dX11_begins_6 rfl rfl ?_
  refine g_iconst (pc := 7) C dX11_begins_7 ?_
  refine g_bipush (pc := 8) C dX11_begins_8 (by decide) ?_
  refine g_iastK (pc := 10) C (ws' := [(ap0, .inl (ca 0, 11, .inl (zA (zU (zU p0 0 270) 1 45))))]) 1 0 rfl rfl (Nat.le_of_ble_eq_true rfl) (Nat.le_of_ble_eq_true rfl) rfl dX11_begins_10 ?_
  refine g_aload_n (pc := 11) C 0 dX11_begins_11 rfl rfl ?_
  refine g_iconst (pc := 12) C dX11_begins_12 ?_
  refine g_bipush (pc := 13) C dX11_begins_13 (by decide) ?_
  refine g_iastK (pc := 15) C (ws' := [(ap0, .inl (ca 0, 11, .inl (zA (zU (zU (zU p0 0 270) 1 45) 2 15))))]) 2 0 rfl rfl (Nat.le_of_ble_eq_true rfl) (Nat.le_of_ble_eq_true rfl) rfl dX11_begins_15 ?_
  refine g_aload_n (pc := 16) C 0 dX11_begins_16 rfl rfl ?_
  refine g_iconst (pc := 17) C dX11_begins_17 ?_
  refine g_bipush (pc := 18) C dX11_begins_18 (by decide) ?_
  refine g_iastK (pc := 20) C (ws' := [(ap0, .inl (ca 0, 11, .inl (zA (zU (zU (zU (zU p0 0 270) 1 45) 2 15) 3 30))))]) 3 0 rfl rfl (Nat.le_of_ble_eq_true rfl) (Nat.le_of_ble_eq_true rfl) rfl dX11_begins_20 ?_
  refine g_aload_n (pc := 21) C 0 dX11_begins_21 rfl rfl ?_
  refine g_iconst (pc := 22) C dX11_begins_22 ?_
  refine g_sipush (pc := 23) C dX11_begins_23 (by decide) ?_
  refine g_iastK (pc := 26) C (ws' := [(ap0, .inl (ca 0, 11, .inl (zA (zU (zU (zU (zU (zU p0 0 270) 1 45) 2 15) 3 30) 4 540))))]) 4 0 rfl rfl (Nat.le_of_ble_eq_true rfl) (Nat.le_of_ble_eq_true rfl) rfl dX11_begins_26 ?_
  refine g_aload_n (pc := 27) C 0 dX11_begins_27 rfl rfl ?_
  refine g_iconst (pc := 28) C dX11_begins_28 ?_
  refine g_sipush (pc := 29) C dX11_begins_29 (by decide) ?_
  refine g_iastK (pc := 32) C (ws' := [(ap0, .inl (ca 0, 11, .inl (zA (zU (zU (zU (zU (zU (zU p0 0 270) 1 45) 2 15) 3 30) 4 540) 5 600))))]) 5 0 rfl rfl (Nat.le_of_ble_eq_true rfl) (Nat.le_of_ble_eq_true rfl) rfl dX11_begins_32 ?_
  refine g_aload_n (pc := 33) C 0 dX11_begins_33 rfl rfl ?_
  refine g_bipush (pc := 34) C dX11_begins_34 (by decide) ?_
  refine g_iconst (pc := 36) C dX11_begins_36 ?_
  refine g_iastK (pc := 37) C (ws' := [(ap0, .inl (ca 0, 11, .inl (zA (zU (zU (zU (zU (zU (zU (zU p0 0 270) 1 45) 2 15) 3 30) 4 540) 5 600) 6 2))))]) 6 0 rfl rfl (Nat.le_of_ble_eq_true rfl) (Nat.le_of_ble_eq_true rfl) rfl dX11_begins_37 ?_
  refine g_aload_n (pc := 38) C 0 dX11_begins_38 rfl rfl ?_
  refine g_bipush (pc := 39) C dX11_begins_39 (by decide) ?_
  refine g_sipush (pc := 41) C dX11_begins_41 (by decide) ?_
  refine g_iastK (pc := 44) C (ws' := [(ap0, .inl (ca 0, 11, .inl (zA (zU (zU (zU (zU (zU (zU (zU (zU p0 0 270) 1 45) 2 15) 3 30) 4 540) 5 600) 6 2) 7 660))))]) 7 0 rfl rfl (Nat.le_of_ble_eq_true rfl) (Nat.le_of_ble_eq_true rfl) rfl dX11_begins_44 ?_
  refine g_aload_n (pc := 45) C 0 dX11_begins_45 rfl rfl ?_
  refine g_bipush (pc := 46) C dX11_begins_46 (by decide) ?_
  refine g_sipush (pc := 48) C dX11_begins_48 (by decide) ?_
  refine g_iastK (pc := 51) C (ws' := [(ap0, .inl (ca 0, 11, .inl (zA (zU (zU (zU (zU (zU (zU (zU (zU (zU p0 0 270) 1 45) 2 15) 3 30) 4 540) 5 600) 6 2) 7 660) 8 540))))]) 8 0 rfl rfl (Nat.le_of_ble_eq_true rfl) (Nat.le_of_ble_eq_true rfl) rfl dX11_begins_51 ?_
  refine g_aload_n (pc := 52) C 0 dX11_begins_52 rfl rfl ?_
  refine g_bipush (pc := 53) C dX11_begins_53 (by decide) ?_
  refine g_iconst (pc := 55) C dX11_begins_55 ?_
  refine g_iastK (pc := 56) C (ws' := [(ap0, .inl (ca 0, 11, .inl (zA (zU (zU (zU (zU (zU (zU (zU (zU (zU (zU p0 0 270) 1 45) 2 15) 3 30) 4 540) 5 600) 6 2) 7 660) 8 540) 9 3))))]) 9 0 rfl rfl (Nat.le_of_ble_eq_true rfl) (Nat.le_of_ble_eq_true rfl) rfl dX11_begins_56 ?_
  refine g_aload_n (pc := 57) C 0 dX11_begins_57 rfl rfl ?_
  refine g_bipush (pc := 58) C dX11_begins_58 (by decide) ?_
  refine g_sipush (pc := 60) C dX11_begins_60 (by decide) ?_
  refine g_iastK (pc := 63) C (ws' := [(ap0, .inl (ca 0, 11, .inl (zA (zU (zU (zU (zU (zU (zU (zU (zU (zU (zU (zU p0 0 270) 1 45) 2 15) 3 30) 4 540) 5 600) 6 2) 7 660) 8 540) 9 3) 10 3360))))]) 10 0 rfl rfl (Nat.le_of_ble_eq_true rfl) (Nat.le_of_ble_eq_true rfl) rfl dX11_begins_63 ?_
  exact g_vret (pc := 64) C hf E rfl (fun _ => 0) [0] (by decide) rfl rfl (Nat.le_refl _) (Nat.le_refl _) dX11_begins_64
def oX11_bits (ca : Nat → ClassId)   (Ro : Int) : (Nat → Nat) → va_W := fun _ => []
def oiX11_bits (Ro : Int) : Option Value := (some (.int (zI Ro)))
set_option maxRecDepth 100000 in
theorem kX11_bits (l : Launch) (D : va_G) (ca : Nat → ClassId)   (v0 : Int) (Ro : Int)
    (hf : fX11_bits v0 = some Ro) : Zc l D ca yX11_bits cX11_bits 3 (some .int) { frames := 0, cells := 0, slots := 0, locals := 0 } [.int (zI v0)] [] (oiX11_bits Ro) (oX11_bits ca Ro) := by
  refine ctr_of (lv := [(0, .int (zI v0))]) (by decide +kernel) (Nat.le_of_ble_eq_true rfl) rfl (fun Γ hl0 C E hnm => ?_)
  have H4 : ∀  (n4 : Nat) (v1 : Int) (v2 : Int), zlp (fX11_bits_4 v0) n4 (v1, v2) = some Ro → Zd D Γ 0 0 [] 4 [(0, .int (zI v0)), (1, .int (zI v1)), (2, .int (zI v2))] [] := by
    intro n4
    induction n4 with
    | zero =>
      intro v1 v2 hf
      exact zno hf
    | succ n4 ih4 =>
      intro v1 v2 hf
      rw [zlp_s] at hf
      unfold fX11_bits_4 at hf
      dsimp only at hf
      refine g_iload_n (pc := 4) C 2 dX11_bits_4 rfl rfl ?_
      refine g_bipush (pc := 5) C dX11_bits_5 (by decide) ?_
      refine g_icmp_ger (pc := 7) C (tgt := 24) dX11_bits_7 (by decide) (by decide) hf (fun hf => ?_) (fun hf => ?_)
      · refine g_iload_n (pc := 24) C 1 dX11_bits_24 rfl rfl ?_
        exact g_iret (pc := 25) C hf E rfl (fun _ => 0) [] (by decide) rfl rfl (Nat.le_refl _) (Nat.le_refl _) dX11_bits_25
      · refine g_iload_n (pc := 10) C 1 dX11_bits_10 rfl rfl ?_
        refine g_iload_n (pc := 11) C 0 dX11_bits_11 rfl rfl ?_
        refine g_iload_n (pc := 12) C 2 dX11_bits_12 rfl rfl ?_
        refine g_ishr (pc := 13) C dX11_bits_13 ?_
        refine g_iconst (pc := 14) C dX11_bits_14 ?_
        refine g_iand (pc := 15) C dX11_bits_15 ?_
        refine g_iadd (pc := 16) C dX11_bits_16 ?_
        refine g_istore_n (pc := 17) C (lv' := [(1, .int (zI (v1 + (zand (zshr v0 v2) 1)))), (0, .int (zI v0)), (2, .int (zI v2))]) dX11_bits_17 rfl (Nat.le_of_ble_eq_true rfl) rfl ?_
        refine g_iinc (pc := 18) C 2 (lv' := [(2, .int (zI (v2 + 1))), (1, .int (zI (v1 + (zand (zshr v0 v2) 1)))), (0, .int (zI v0))]) dX11_bits_18 rfl (Nat.le_of_ble_eq_true rfl) rfl ?_
        refine g_goto (pc := 21) C (tgt := 4) dX11_bits_21 (by decide) ?_
        refine g_sub [] [2, 1, 0] (by decide) rfl rfl rfl ?_
        exact ih4 _ _ hf
  unfold fX11_bits at hf
  refine g_iconst (pc := 0) C dX11_bits_0 ?_
  refine g_istore_n (pc := 1) C (lv' := [(1, .int (zI 0)), (0, .int (zI v0))]) dX11_bits_1 rfl (Nat.le_of_ble_eq_true rfl) rfl ?_
  refine g_iconst (pc := 2) C dX11_bits_2 ?_
  refine g_istore_n (pc := 3) C (lv' := [(2, .int (zI 0)), (1, .int (zI 0)), (0, .int (zI v0))]) dX11_bits_3 rfl (Nat.le_of_ble_eq_true rfl) rfl ?_
  refine g_sub [] [2, 1, 0] (by decide) rfl rfl rfl ?_
  exact H4 _ _ _ hf
def oX11_isRest (ca : Nat → ClassId) (aMo : Nat → Nat) (mo_taped : Int) (mo_acts : Nat → Int) (mo_kindOf : Nat → Int) (mo_size : Int) (mo_runs : Int) (mo_found : Int) (mo_counted : Int) (mo_isParted : Int) (mo_maybes : Int) (mo_days : Int) (mo_over2 : Int) (mo_longer : Int) (Ro : Int) : (Nat → Nat) → va_W := fun _ => [((aMo 0), .inr (11, [.ref (aMo 1), .int (zI mo_taped), .ref (aMo 3), .ref (aMo 4), .ref (aMo 5), .ref (aMo 6), .ref (aMo 7), .ref (aMo 8), .ref (aMo 9), .ref (aMo 10), .ref (aMo 11), .ref (aMo 12), .ref (aMo 13), .ref (aMo 14), .ref (aMo 15), .ref (aMo 16), .int (zI mo_size), .int (zI mo_runs), .ref (aMo 19), .ref (aMo 20), .ref (aMo 21), .int (zI mo_found), .int (zI mo_counted), .int (zI mo_isParted), .ref (aMo 25), .ref (aMo 26), .ref (aMo 27), .ref (aMo 28), .ref (aMo 29), .int (zI mo_maybes), .int (zI mo_days), .int (zI mo_over2), .int (zI mo_longer), .ref (aMo 34)])), ((aMo 5), .inl (ca 0, 4, .inl (zA mo_acts))), ((aMo 7), .inl (ca 0, 240, .inl (zA mo_kindOf)))]
def oiX11_isRest (Ro : Int) : Option Value := (some (.int (zI Ro)))
set_option maxRecDepth 100000 in
theorem kX11_isRest (l : Launch) (D : va_G) (ca : Nat → ClassId) (aMo : Nat → Nat) (mo_taped : Int) (mo_acts : Nat → Int) (mo_kindOf : Nat → Int) (mo_size : Int) (mo_runs : Int) (mo_found : Int) (mo_counted : Int) (mo_isParted : Int) (mo_maybes : Int) (mo_days : Int) (mo_over2 : Int) (mo_longer : Int) (v1 : Int) (v2 : Int) (v3 : Int) (Ro : Int)
    (hf : fX11_isRest v1 v2 v3 mo_acts mo_kindOf = some Ro) : Zc l D ca yX11_isRest cX11_isRest 4 (some .boolean) { frames := 0, cells := 0, slots := 0, locals := 0 } [.ref (aMo 0), .int (zI v1), .int (zI v2), .int (zI v3)] [((aMo 0), .inr (11, [.ref (aMo 1), .int (zI mo_taped), .ref (aMo 3), .ref (aMo 4), .ref (aMo 5), .ref (aMo 6), .ref (aMo 7), .ref (aMo 8), .ref (aMo 9), .ref (aMo 10), .ref (aMo 11), .ref (aMo 12), .ref (aMo 13), .ref (aMo 14), .ref (aMo 15), .ref (aMo 16), .int (zI mo_size), .int (zI mo_runs), .ref (aMo 19), .ref (aMo 20), .ref (aMo 21), .int (zI mo_found), .int (zI mo_counted), .int (zI mo_isParted), .ref (aMo 25), .ref (aMo 26), .ref (aMo 27), .ref (aMo 28), .ref (aMo 29), .int (zI mo_maybes), .int (zI mo_days), .int (zI mo_over2), .int (zI mo_longer), .ref (aMo 34)])), ((aMo 5), .inl (ca 0, 4, .inl (zA mo_acts))), ((aMo 7), .inl (ca 0, 240, .inl (zA mo_kindOf)))] (oiX11_isRest Ro) (oX11_isRest ca aMo mo_taped mo_acts mo_kindOf mo_size mo_runs mo_found mo_counted mo_isParted mo_maybes mo_days mo_over2 mo_longer Ro) := by
  refine ctr_of (lv := [(0, .ref (aMo 0)), (1, .int (zI v1)), (2, .int (zI v2)), (3, .int (zI v3))]) (by decide +kernel) (Nat.le_of_ble_eq_true rfl) rfl (fun Γ hl0 C E hnm => ?_)
  have H48 : fX11_isRest_48 = some Ro → Zd D Γ 0 0 [((aMo 0), .inr (11, [.ref (aMo 1), .int (zI mo_taped), .ref (aMo 3), .ref (aMo 4), .ref (aMo 5), .ref (aMo 6), .ref (aMo 7), .ref (aMo 8), .ref (aMo 9), .ref (aMo 10), .ref (aMo 11), .ref (aMo 12), .ref (aMo 13), .ref (aMo 14), .ref (aMo 15), .ref (aMo 16), .int (zI mo_size), .int (zI mo_runs), .ref (aMo 19), .ref (aMo 20), .ref (aMo 21), .int (zI mo_found), .int (zI mo_counted), .int (zI mo_isParted), .ref (aMo 25), .ref (aMo 26), .ref (aMo 27), .ref (aMo 28), .ref (aMo 29), .int (zI mo_maybes), .int (zI mo_days), .int (zI mo_over2), .int (zI mo_longer), .ref (aMo 34)])), ((aMo 5), .inl (ca 0, 4, .inl (zA mo_acts))), ((aMo 7), .inl (ca 0, 240, .inl (zA mo_kindOf)))] 48 [] [] := by
    intro  hf
    unfold fX11_isRest_48 at hf
    refine g_iconst (pc := 48) C dX11_isRest_48 ?_
    refine g_goto (pc := 49) C (tgt := 53) dX11_isRest_49 (by decide) ?_
    exact g_zret (pc := 53) C hf E (by decide) rfl (fun _ => 0) [0, 1, 2] (by decide) rfl rfl (Nat.le_refl _) (Nat.le_refl _) dX11_isRest_53
  have H52 : fX11_isRest_52 = some Ro → Zd D Γ 0 0 [((aMo 0), .inr (11, [.ref (aMo 1), .int (zI mo_taped), .ref (aMo 3), .ref (aMo 4), .ref (aMo 5), .ref (aMo 6), .ref (aMo 7), .ref (aMo 8), .ref (aMo 9), .ref (aMo 10), .ref (aMo 11), .ref (aMo 12), .ref (aMo 13), .ref (aMo 14), .ref (aMo 15), .ref (aMo 16), .int (zI mo_size), .int (zI mo_runs), .ref (aMo 19), .ref (aMo 20), .ref (aMo 21), .int (zI mo_found), .int (zI mo_counted), .int (zI mo_isParted), .ref (aMo 25), .ref (aMo 26), .ref (aMo 27), .ref (aMo 28), .ref (aMo 29), .int (zI mo_maybes), .int (zI mo_days), .int (zI mo_over2), .int (zI mo_longer), .ref (aMo 34)])), ((aMo 5), .inl (ca 0, 4, .inl (zA mo_acts))), ((aMo 7), .inl (ca 0, 240, .inl (zA mo_kindOf)))] 52 [] [] := by
    intro  hf
    unfold fX11_isRest_52 at hf
    refine g_iconst (pc := 52) C dX11_isRest_52 ?_
    exact g_zret (pc := 53) C hf E (by decide) rfl (fun _ => 0) [0, 1, 2] (by decide) rfl rfl (Nat.le_refl _) (Nat.le_refl _) dX11_isRest_53
  unfold fX11_isRest at hf
  refine g_iload_n (pc := 0) C 2 dX11_isRest_0 rfl rfl ?_
  refine g_if_lt (pc := 1) C (tgt := 52) dX11_isRest_1 (by decide) hf (fun hf => ?_) (fun hf => ?_)
  · refine g_sub [0, 1, 2] [] (by decide) rfl rfl rfl ?_
    exact H52  hf
  · refine g_iload_n (pc := 4) C 2 dX11_isRest_4 rfl rfl ?_
    refine g_aload_n (pc := 5) C 0 dX11_isRest_5 rfl rfl ?_
    refine g_get (pc := 6) C zf_X11_20 0 rfl rfl dX11_isRest_6 ?_
    refine g_iload_n (pc := 9) C 1 dX11_isRest_9 rfl rfl ?_
    refine g_iald (pc := 10) C (N := 4) 1 rfl rfl (Nat.le_of_ble_eq_true rfl) dX11_isRest_10 hf (fun hf => ?_)
    refine g_icmp_ge (pc := 11) C (tgt := 52) dX11_isRest_11 (by decide) hf (fun hf => ?_) (fun hf => ?_)
    · refine g_sub [0, 1, 2] [] (by decide) rfl rfl rfl ?_
      exact H52  hf
    · refine g_aload_n (pc := 14) C 0 dX11_isRest_14 rfl rfl ?_
      refine g_get (pc := 15) C zf_X11_26 0 rfl rfl dX11_isRest_15 ?_
      refine g_bipush (pc := 18) C dX11_isRest_18 (by decide) ?_
      refine g_iload_n (pc := 20) C 1 dX11_isRest_20 rfl rfl ?_
      refine g_imul (pc := 21) C dX11_isRest_21 ?_
      refine g_iload_n (pc := 22) C 2 dX11_isRest_22 rfl rfl ?_
      refine g_iadd (pc := 23) C dX11_isRest_23 ?_
      refine g_iald (pc := 24) C (N := 240) 2 rfl rfl (Nat.le_of_ble_eq_true rfl) dX11_isRest_24 hf (fun hf => ?_)
      refine g_iconst (pc := 25) C dX11_isRest_25 ?_
      refine g_icmp_eqr (pc := 26) C (tgt := 48) dX11_isRest_26 (by decide) (by decide) hf (fun hf => ?_) (fun hf => ?_)
      · refine g_sub [0, 1, 2] [] (by decide) rfl rfl rfl ?_
        exact H48  hf
      · refine g_aload_n (pc := 29) C 0 dX11_isRest_29 rfl rfl ?_
        refine g_get (pc := 30) C zf_X11_26 0 rfl rfl dX11_isRest_30 ?_
        refine g_bipush (pc := 33) C dX11_isRest_33 (by decide) ?_
        refine g_iload_n (pc := 35) C 1 dX11_isRest_35 rfl rfl ?_
        refine g_imul (pc := 36) C dX11_isRest_36 ?_
        refine g_iload_n (pc := 37) C 2 dX11_isRest_37 rfl rfl ?_
        refine g_iadd (pc := 38) C dX11_isRest_38 ?_
        refine g_iald (pc := 39) C (N := 240) 2 rfl rfl (Nat.le_of_ble_eq_true rfl) dX11_isRest_39 hf (fun hf => ?_)
        refine g_iconst (pc := 40) C dX11_isRest_40 ?_
        refine g_icmp_ner (pc := 41) C (tgt := 52) dX11_isRest_41 (by decide) (by decide) hf (fun hf => ?_) (fun hf => ?_)
        · refine g_sub [0, 1, 2] [] (by decide) rfl rfl rfl ?_
          exact H52  hf
        · refine g_iload_n (pc := 44) C 3 dX11_isRest_44 rfl rfl ?_
          refine g_if_ne (pc := 45) C (tgt := 52) dX11_isRest_45 (by decide) hf (fun hf => ?_) (fun hf => ?_)
          · refine g_sub [0, 1, 2] [] (by decide) rfl rfl rfl ?_
            exact H52  hf
          · refine g_sub [0, 1, 2] [] (by decide) rfl rfl rfl ?_
            exact H48  hf
def oX11_readAs (ca : Nat → ClassId) (aMo : Nat → Nat) (mo_taped : Int) (mo_acts : Nat → Int) (mo_kindOf : Nat → Int) (mo_size : Int) (mo_runs : Int) (mo_found : Int) (mo_counted : Int) (mo_isParted : Int) (mo_maybes : Int) (mo_days : Int) (mo_over2 : Int) (mo_longer : Int) (Ro : Int) : (Nat → Nat) → va_W := fun _ => [((aMo 0), .inr (11, [.ref (aMo 1), .int (zI mo_taped), .ref (aMo 3), .ref (aMo 4), .ref (aMo 5), .ref (aMo 6), .ref (aMo 7), .ref (aMo 8), .ref (aMo 9), .ref (aMo 10), .ref (aMo 11), .ref (aMo 12), .ref (aMo 13), .ref (aMo 14), .ref (aMo 15), .ref (aMo 16), .int (zI mo_size), .int (zI mo_runs), .ref (aMo 19), .ref (aMo 20), .ref (aMo 21), .int (zI mo_found), .int (zI mo_counted), .int (zI mo_isParted), .ref (aMo 25), .ref (aMo 26), .ref (aMo 27), .ref (aMo 28), .ref (aMo 29), .int (zI mo_maybes), .int (zI mo_days), .int (zI mo_over2), .int (zI mo_longer), .ref (aMo 34)])), ((aMo 5), .inl (ca 0, 4, .inl (zA mo_acts))), ((aMo 7), .inl (ca 0, 240, .inl (zA mo_kindOf)))]
def oiX11_readAs (Ro : Int) : Option Value := (some (.int (zI Ro)))
set_option maxRecDepth 100000 in
theorem kX11_readAs (l : Launch) (D : va_G) (ca : Nat → ClassId) (aMo : Nat → Nat) (mo_taped : Int) (mo_acts : Nat → Int) (mo_kindOf : Nat → Int) (mo_size : Int) (mo_runs : Int) (mo_found : Int) (mo_counted : Int) (mo_isParted : Int) (mo_maybes : Int) (mo_days : Int) (mo_over2 : Int) (mo_longer : Int) (v1 : Int) (v2 : Int) (v3 : Int) (Ro : Int)
    (hf : fX11_readAs v1 v2 v3 mo_acts mo_kindOf = some Ro) : Zc l D ca yX11_readAs cX11_readAs 5 (some .int) { frames := 1, cells := 0, slots := 0, locals := 23 } [.ref (aMo 0), .int (zI v1), .int (zI v2), .int (zI v3)] [((aMo 0), .inr (11, [.ref (aMo 1), .int (zI mo_taped), .ref (aMo 3), .ref (aMo 4), .ref (aMo 5), .ref (aMo 6), .ref (aMo 7), .ref (aMo 8), .ref (aMo 9), .ref (aMo 10), .ref (aMo 11), .ref (aMo 12), .ref (aMo 13), .ref (aMo 14), .ref (aMo 15), .ref (aMo 16), .int (zI mo_size), .int (zI mo_runs), .ref (aMo 19), .ref (aMo 20), .ref (aMo 21), .int (zI mo_found), .int (zI mo_counted), .int (zI mo_isParted), .ref (aMo 25), .ref (aMo 26), .ref (aMo 27), .ref (aMo 28), .ref (aMo 29), .int (zI mo_maybes), .int (zI mo_days), .int (zI mo_over2), .int (zI mo_longer), .ref (aMo 34)])), ((aMo 5), .inl (ca 0, 4, .inl (zA mo_acts))), ((aMo 7), .inl (ca 0, 240, .inl (zA mo_kindOf)))] (oiX11_readAs Ro) (oX11_readAs ca aMo mo_taped mo_acts mo_kindOf mo_size mo_runs mo_found mo_counted mo_isParted mo_maybes mo_days mo_over2 mo_longer Ro) := by
  refine ctr_of (lv := [(0, .ref (aMo 0)), (1, .int (zI v1)), (2, .int (zI v2)), (3, .int (zI v3))]) (by decide +kernel) (Nat.le_of_ble_eq_true rfl) rfl (fun Γ hl0 C E hnm => ?_)
  have H63 : fX11_readAs_63 = some Ro → Zd D Γ 0 0 [((aMo 0), .inr (11, [.ref (aMo 1), .int (zI mo_taped), .ref (aMo 3), .ref (aMo 4), .ref (aMo 5), .ref (aMo 6), .ref (aMo 7), .ref (aMo 8), .ref (aMo 9), .ref (aMo 10), .ref (aMo 11), .ref (aMo 12), .ref (aMo 13), .ref (aMo 14), .ref (aMo 15), .ref (aMo 16), .int (zI mo_size), .int (zI mo_runs), .ref (aMo 19), .ref (aMo 20), .ref (aMo 21), .int (zI mo_found), .int (zI mo_counted), .int (zI mo_isParted), .ref (aMo 25), .ref (aMo 26), .ref (aMo 27), .ref (aMo 28), .ref (aMo 29), .int (zI mo_maybes), .int (zI mo_days), .int (zI mo_over2), .int (zI mo_longer), .ref (aMo 34)])), ((aMo 5), .inl (ca 0, 4, .inl (zA mo_acts))), ((aMo 7), .inl (ca 0, 240, .inl (zA mo_kindOf)))] 63 [] [] := by
    intro  hf
    unfold fX11_readAs_63 at hf
    refine g_iconst (pc := 63) C dX11_readAs_63 ?_
    exact g_iret (pc := 64) C hf E rfl (fun _ => 0) [0, 1, 2] (by decide) rfl rfl (Nat.le_refl _) (Nat.le_refl _) dX11_readAs_64
  unfold fX11_readAs at hf
  refine g_aload_n (pc := 0) C 0 dX11_readAs_0 rfl rfl ?_
  refine g_get (pc := 1) C zf_X11_26 0 rfl rfl dX11_readAs_1 ?_
  refine g_bipush (pc := 4) C dX11_readAs_4 (by decide) ?_
  refine g_iload_n (pc := 6) C 1 dX11_readAs_6 rfl rfl ?_
  refine g_imul (pc := 7) C dX11_readAs_7 ?_
  refine g_iload_n (pc := 8) C 2 dX11_readAs_8 rfl rfl ?_
  refine g_iadd (pc := 9) C dX11_readAs_9 ?_
  refine g_iald (pc := 10) C (N := 240) 2 rfl rfl (Nat.le_of_ble_eq_true rfl) dX11_readAs_10 hf (fun hf => ?_)
  refine g_istore (pc := 11) C (lv' := [(4, .int (zI (mo_kindOf ((60 * v1) + v2).toNat))), (0, .ref (aMo 0)), (1, .int (zI v1)), (2, .int (zI v2)), (3, .int (zI v3))]) dX11_readAs_11 (Nat.le_of_ble_eq_true rfl) rfl ?_
  refine g_iload (pc := 13) C 0 dX11_readAs_13 rfl ?_
  refine g_iconst (pc := 15) C dX11_readAs_15 ?_
  refine g_icmp_ner (pc := 16) C (tgt := 29) dX11_readAs_16 (by decide) (by decide) hf (fun hf => ?_) (fun hf => ?_)
  · refine g_iload (pc := 29) C 0 dX11_readAs_29 rfl ?_
    refine g_iconst (pc := 31) C dX11_readAs_31 ?_
    refine g_icmp_ner (pc := 32) C (tgt := 65) dX11_readAs_32 (by decide) (by decide) hf (fun hf => ?_) (fun hf => ?_)
    · refine g_iload (pc := 65) C 0 dX11_readAs_65 rfl ?_
      exact g_iret (pc := 67) C hf E rfl (fun _ => 0) [0, 1, 2] (by decide) rfl rfl (Nat.le_refl _) (Nat.le_refl _) dX11_readAs_67
    · refine g_aload_n (pc := 35) C 1 dX11_readAs_35 rfl rfl ?_
      refine g_iload_n (pc := 36) C 2 dX11_readAs_36 rfl rfl ?_
      refine g_iload_n (pc := 37) C 3 dX11_readAs_37 rfl rfl ?_
      refine g_iconst (pc := 38) C dX11_readAs_38 ?_
      refine g_isub (pc := 39) C dX11_readAs_39 ?_
      refine g_iload_n (pc := 40) C 4 dX11_readAs_40 rfl rfl ?_
      obtain ⟨r_41, hc_41, hf⟩ := Option.bind_eq_some_iff.mp hf
      refine g_callV (pc := 41) C hl0 (wr := []) (k' := 0) (n' := 0) (ws' := fun _ => [((aMo 0), .inr (11, [.ref (aMo 1), .int (zI mo_taped), .ref (aMo 3), .ref (aMo 4), .ref (aMo 5), .ref (aMo 6), .ref (aMo 7), .ref (aMo 8), .ref (aMo 9), .ref (aMo 10), .ref (aMo 11), .ref (aMo 12), .ref (aMo 13), .ref (aMo 14), .ref (aMo 15), .ref (aMo 16), .int (zI mo_size), .int (zI mo_runs), .ref (aMo 19), .ref (aMo 20), .ref (aMo 21), .int (zI mo_found), .int (zI mo_counted), .int (zI mo_isParted), .ref (aMo 25), .ref (aMo 26), .ref (aMo 27), .ref (aMo 28), .ref (aMo 29), .int (zI mo_maybes), .int (zI mo_days), .int (zI mo_over2), .int (zI mo_longer), .ref (aMo 34)])), ((aMo 5), .inl (ca 0, 4, .inl (zA mo_acts))), ((aMo 7), .inl (ca 0, 240, .inl (zA mo_kindOf)))]) (st' := [.int (zI r_41)]) (kX11_isRest l D ca aMo mo_taped mo_acts mo_kindOf mo_size mo_runs mo_found mo_counted mo_isParted mo_maybes mo_days mo_over2 mo_longer v1 (v2 - 1) v3 r_41 hc_41) wml_RX11_117 wim_X11_isRest wse_X11_isRest win_RX11 wco_X11_isRest (nA := 3) rfl (by decide +kernel)  ⟨(Nat.le_of_ble_eq_true rfl), (Nat.le_of_ble_eq_true rfl)⟩ (Nat.le_refl _) (Nat.le_refl _) rfl (Nat.le_of_ble_eq_true rfl) dX11_readAs_41 0 11 rfl rfl rfl [0, 1, 2] [] rfl rfl rfl (by decide) (by decide) (by decide) rfl rfl (fun _ => rfl) rfl (fun _ => ?_)
      refine g_if_eq (pc := 44) C (tgt := 63) dX11_readAs_44 (by decide) hf (fun hf => ?_) (fun hf => ?_)
      · refine g_sub [0, 1, 2] [] (by decide) rfl rfl rfl ?_
        exact H63  hf
      · refine g_aload_n (pc := 47) C 1 dX11_readAs_47 rfl rfl ?_
        refine g_iload_n (pc := 48) C 2 dX11_readAs_48 rfl rfl ?_
        refine g_iload_n (pc := 49) C 3 dX11_readAs_49 rfl rfl ?_
        refine g_iconst (pc := 50) C dX11_readAs_50 ?_
        refine g_iadd (pc := 51) C dX11_readAs_51 ?_
        refine g_iload_n (pc := 52) C 4 dX11_readAs_52 rfl rfl ?_
        obtain ⟨r_53, hc_53, hf⟩ := Option.bind_eq_some_iff.mp hf
        refine g_callV (pc := 53) C hl0 (wr := []) (k' := 0) (n' := 0) (ws' := fun _ => [((aMo 0), .inr (11, [.ref (aMo 1), .int (zI mo_taped), .ref (aMo 3), .ref (aMo 4), .ref (aMo 5), .ref (aMo 6), .ref (aMo 7), .ref (aMo 8), .ref (aMo 9), .ref (aMo 10), .ref (aMo 11), .ref (aMo 12), .ref (aMo 13), .ref (aMo 14), .ref (aMo 15), .ref (aMo 16), .int (zI mo_size), .int (zI mo_runs), .ref (aMo 19), .ref (aMo 20), .ref (aMo 21), .int (zI mo_found), .int (zI mo_counted), .int (zI mo_isParted), .ref (aMo 25), .ref (aMo 26), .ref (aMo 27), .ref (aMo 28), .ref (aMo 29), .int (zI mo_maybes), .int (zI mo_days), .int (zI mo_over2), .int (zI mo_longer), .ref (aMo 34)])), ((aMo 5), .inl (ca 0, 4, .inl (zA mo_acts))), ((aMo 7), .inl (ca 0, 240, .inl (zA mo_kindOf)))]) (st' := [.int (zI r_53)]) (kX11_isRest l D ca aMo mo_taped mo_acts mo_kindOf mo_size mo_runs mo_found mo_counted mo_isParted mo_maybes mo_days mo_over2 mo_longer v1 (v2 + 1) v3 r_53 hc_53) wml_RX11_117 wim_X11_isRest wse_X11_isRest win_RX11 wco_X11_isRest (nA := 3) rfl (by decide +kernel)  ⟨(Nat.le_of_ble_eq_true rfl), (Nat.le_of_ble_eq_true rfl)⟩ (Nat.le_refl _) (Nat.le_refl _) rfl (Nat.le_of_ble_eq_true rfl) dX11_readAs_53 0 11 rfl rfl rfl [0, 1, 2] [] rfl rfl rfl (by decide) (by decide) (by decide) rfl rfl (fun _ => rfl) rfl (fun _ => ?_)
        refine g_if_eq (pc := 56) C (tgt := 63) dX11_readAs_56 (by decide) hf (fun hf => ?_) (fun hf => ?_)
        · refine g_sub [0, 1, 2] [] (by decide) rfl rfl rfl ?_
          exact H63  hf
        · refine g_iconst (pc := 59) C dX11_readAs_59 ?_
          refine g_goto (pc := 60) C (tgt := 64) dX11_readAs_60 (by decide) ?_
          exact g_iret (pc := 64) C hf E rfl (fun _ => 0) [0, 1, 2] (by decide) rfl rfl (Nat.le_refl _) (Nat.le_refl _) dX11_readAs_64
  · refine g_iload_n (pc := 19) C 4 dX11_readAs_19 rfl rfl ?_
    refine g_if_eq (pc := 20) C (tgt := 27) dX11_readAs_20 (by decide) hf (fun hf => ?_) (fun hf => ?_)
    · refine g_iconst (pc := 27) C dX11_readAs_27 ?_
      exact g_iret (pc := 28) C hf E rfl (fun _ => 0) [0, 1, 2] (by decide) rfl rfl (Nat.le_refl _) (Nat.le_refl _) dX11_readAs_28
    · refine g_iconst (pc := 23) C dX11_readAs_23 ?_
      refine g_goto (pc := 24) C (tgt := 28) dX11_readAs_24 (by decide) ?_
      exact g_iret (pc := 28) C hf E rfl (fun _ => 0) [0, 1, 2] (by decide) rfl rfl (Nat.le_refl _) (Nat.le_refl _) dX11_readAs_28
def oX11_lays (ca : Nat → ClassId) (aMo : Nat → Nat) (mo_taped : Int) (mo_acts : Nat → Int) (mo_kindOf : Nat → Int) (mo_lengthOf : Nat → Int) (mo_found : Int) (mo_counted : Int) (mo_isParted : Int) (mo_maybes : Int) (mo_days : Int) (mo_over2 : Int) (mo_longer : Int) (Ro : (Nat → Int) × (Nat → Int) × (Nat → Int) × (Nat → Int) × Int × Int) : (Nat → Nat) → va_W := fun _ => [((aMo 0), .inr (11, [.ref (aMo 1), .int (zI mo_taped), .ref (aMo 3), .ref (aMo 4), .ref (aMo 5), .ref (aMo 6), .ref (aMo 7), .ref (aMo 8), .ref (aMo 9), .ref (aMo 10), .ref (aMo 11), .ref (aMo 12), .ref (aMo 13), .ref (aMo 14), .ref (aMo 15), .ref (aMo 16), .int (zI (Ro.2.2.2.2.1)), .int (zI (Ro.2.2.2.2.2)), .ref (aMo 19), .ref (aMo 20), .ref (aMo 21), .int (zI mo_found), .int (zI mo_counted), .int (zI mo_isParted), .ref (aMo 25), .ref (aMo 26), .ref (aMo 27), .ref (aMo 28), .ref (aMo 29), .int (zI mo_maybes), .int (zI mo_days), .int (zI mo_over2), .int (zI mo_longer), .ref (aMo 34)])), ((aMo 5), .inl (ca 0, 4, .inl (zA mo_acts))), ((aMo 7), .inl (ca 0, 240, .inl (zA mo_kindOf))), ((aMo 8), .inl (ca 0, 240, .inl (zA mo_lengthOf))), ((aMo 13), .inl (ca 0, 20160, .inl (zA (Ro.1)))), ((aMo 14), .inl (ca 0, 20161, .inl (zA (Ro.2.1)))), ((aMo 15), .inl (ca 0, 60, .inl (zA (Ro.2.2.1)))), ((aMo 16), .inl (ca 0, 60, .inl (zA (Ro.2.2.2.1))))]
def oiX11_lays (Ro : (Nat → Int) × (Nat → Int) × (Nat → Int) × (Nat → Int) × Int × Int) : Option Value := none
set_option maxRecDepth 100000 in
theorem kX11_lays (l : Launch) (D : va_G) (ca : Nat → ClassId) (aMo : Nat → Nat) (mo_taped : Int) (mo_acts : Nat → Int) (mo_kindOf : Nat → Int) (mo_lengthOf : Nat → Int) (mo_laid : Nat → Int) (mo_driven : Nat → Int) (mo_runFrom : Nat → Int) (mo_runTo : Nat → Int) (mo_size : Int) (mo_runs : Int) (mo_found : Int) (mo_counted : Int) (mo_isParted : Int) (mo_maybes : Int) (mo_days : Int) (mo_over2 : Int) (mo_longer : Int) (v1 : Int) (v2 : Int) (Ro : (Nat → Int) × (Nat → Int) × (Nat → Int) × (Nat → Int) × Int × Int)
    (hf : fX11_lays v1 v2 mo_acts mo_kindOf mo_lengthOf mo_laid mo_driven mo_runFrom mo_runTo mo_size mo_runs = some Ro) : Zc l D ca yX11_lays cX11_lays 6 none { frames := 2, cells := 0, slots := 0, locals := 47 } [.ref (aMo 0), .int (zI v1), .int (zI v2)] [((aMo 0), .inr (11, [.ref (aMo 1), .int (zI mo_taped), .ref (aMo 3), .ref (aMo 4), .ref (aMo 5), .ref (aMo 6), .ref (aMo 7), .ref (aMo 8), .ref (aMo 9), .ref (aMo 10), .ref (aMo 11), .ref (aMo 12), .ref (aMo 13), .ref (aMo 14), .ref (aMo 15), .ref (aMo 16), .int (zI mo_size), .int (zI mo_runs), .ref (aMo 19), .ref (aMo 20), .ref (aMo 21), .int (zI mo_found), .int (zI mo_counted), .int (zI mo_isParted), .ref (aMo 25), .ref (aMo 26), .ref (aMo 27), .ref (aMo 28), .ref (aMo 29), .int (zI mo_maybes), .int (zI mo_days), .int (zI mo_over2), .int (zI mo_longer), .ref (aMo 34)])), ((aMo 5), .inl (ca 0, 4, .inl (zA mo_acts))), ((aMo 7), .inl (ca 0, 240, .inl (zA mo_kindOf))), ((aMo 8), .inl (ca 0, 240, .inl (zA mo_lengthOf))), ((aMo 13), .inl (ca 0, 20160, .inl (zA mo_laid))), ((aMo 14), .inl (ca 0, 20161, .inl (zA mo_driven))), ((aMo 15), .inl (ca 0, 60, .inl (zA mo_runFrom))), ((aMo 16), .inl (ca 0, 60, .inl (zA mo_runTo)))] (oiX11_lays Ro) (oX11_lays ca aMo mo_taped mo_acts mo_kindOf mo_lengthOf mo_found mo_counted mo_isParted mo_maybes mo_days mo_over2 mo_longer Ro) := by
  refine ctr_of (lv := [(0, .ref (aMo 0)), (1, .int (zI v1)), (2, .int (zI v2))]) (by decide +kernel) (Nat.le_of_ble_eq_true rfl) rfl (fun Γ hl0 C E hnm => ?_)
  have H92 : ∀ (mo_laid : Nat → Int) (mo_size : Int) (n92 : Nat) (v3 : Int) (mo_driven : Nat → Int) (mo_runFrom : Nat → Int) (mo_runTo : Nat → Int) (mo_runs : Int), zlp (fX11_lays_92 mo_laid mo_size) n92 (v3, mo_driven, mo_runFrom, mo_runTo, mo_runs) = some Ro → Zd D Γ 0 0 [((aMo 0), .inr (11, [.ref (aMo 1), .int (zI mo_taped), .ref (aMo 3), .ref (aMo 4), .ref (aMo 5), .ref (aMo 6), .ref (aMo 7), .ref (aMo 8), .ref (aMo 9), .ref (aMo 10), .ref (aMo 11), .ref (aMo 12), .ref (aMo 13), .ref (aMo 14), .ref (aMo 15), .ref (aMo 16), .int (zI mo_size), .int (zI mo_runs), .ref (aMo 19), .ref (aMo 20), .ref (aMo 21), .int (zI mo_found), .int (zI mo_counted), .int (zI mo_isParted), .ref (aMo 25), .ref (aMo 26), .ref (aMo 27), .ref (aMo 28), .ref (aMo 29), .int (zI mo_maybes), .int (zI mo_days), .int (zI mo_over2), .int (zI mo_longer), .ref (aMo 34)])), ((aMo 5), .inl (ca 0, 4, .inl (zA mo_acts))), ((aMo 7), .inl (ca 0, 240, .inl (zA mo_kindOf))), ((aMo 8), .inl (ca 0, 240, .inl (zA mo_lengthOf))), ((aMo 13), .inl (ca 0, 20160, .inl (zA mo_laid))), ((aMo 14), .inl (ca 0, 20161, .inl (zA mo_driven))), ((aMo 15), .inl (ca 0, 60, .inl (zA mo_runFrom))), ((aMo 16), .inl (ca 0, 60, .inl (zA mo_runTo)))] 92 [(0, .ref (aMo 0)), (3, .int (zI v3))] [] := by
    intro mo_laid mo_size
    intro n92
    induction n92 with
    | zero =>
      intro v3 mo_driven mo_runFrom mo_runTo mo_runs hf
      exact zno hf
    | succ n92 ih92 =>
      have H192 : ∀ (v3 : Int) (mo_driven : Nat → Int) (mo_runFrom : Nat → Int) (mo_runTo : Nat → Int) (mo_runs : Int), fX11_lays_192 (zlp (fX11_lays_92 mo_laid mo_size) n92) v3 mo_driven mo_runFrom mo_runTo mo_runs = some Ro → Zd D Γ 0 0 [((aMo 0), .inr (11, [.ref (aMo 1), .int (zI mo_taped), .ref (aMo 3), .ref (aMo 4), .ref (aMo 5), .ref (aMo 6), .ref (aMo 7), .ref (aMo 8), .ref (aMo 9), .ref (aMo 10), .ref (aMo 11), .ref (aMo 12), .ref (aMo 13), .ref (aMo 14), .ref (aMo 15), .ref (aMo 16), .int (zI mo_size), .int (zI mo_runs), .ref (aMo 19), .ref (aMo 20), .ref (aMo 21), .int (zI mo_found), .int (zI mo_counted), .int (zI mo_isParted), .ref (aMo 25), .ref (aMo 26), .ref (aMo 27), .ref (aMo 28), .ref (aMo 29), .int (zI mo_maybes), .int (zI mo_days), .int (zI mo_over2), .int (zI mo_longer), .ref (aMo 34)])), ((aMo 5), .inl (ca 0, 4, .inl (zA mo_acts))), ((aMo 7), .inl (ca 0, 240, .inl (zA mo_kindOf))), ((aMo 8), .inl (ca 0, 240, .inl (zA mo_lengthOf))), ((aMo 13), .inl (ca 0, 20160, .inl (zA mo_laid))), ((aMo 14), .inl (ca 0, 20161, .inl (zA mo_driven))), ((aMo 15), .inl (ca 0, 60, .inl (zA mo_runFrom))), ((aMo 16), .inl (ca 0, 60, .inl (zA mo_runTo)))] 192 [(0, .ref (aMo 0)), (3, .int (zI v3))] [] := by
        intro v3 mo_driven mo_runFrom mo_runTo mo_runs hf
        unfold fX11_lays_192 at hf
        refine g_iinc (pc := 192) C 1 (lv' := [(3, .int (zI (v3 + 1))), (0, .ref (aMo 0))]) dX11_lays_192 rfl (Nat.le_of_ble_eq_true rfl) rfl ?_
        refine g_goto (pc := 195) C (tgt := 92) dX11_lays_195 (by decide) ?_
        refine g_sub [0, 1, 2, 3, 4, 5, 6, 7] [1, 0] (by decide) rfl rfl rfl ?_
        exact ih92 _ _ _ _ _ hf
      have H178 : ∀ (v3 : Int) (mo_driven : Nat → Int) (mo_runFrom : Nat → Int) (mo_runTo : Nat → Int) (mo_runs : Int), fX11_lays_178 (zlp (fX11_lays_92 mo_laid mo_size) n92) v3 mo_driven mo_runFrom mo_runTo mo_runs = some Ro → Zd D Γ 0 0 [((aMo 0), .inr (11, [.ref (aMo 1), .int (zI mo_taped), .ref (aMo 3), .ref (aMo 4), .ref (aMo 5), .ref (aMo 6), .ref (aMo 7), .ref (aMo 8), .ref (aMo 9), .ref (aMo 10), .ref (aMo 11), .ref (aMo 12), .ref (aMo 13), .ref (aMo 14), .ref (aMo 15), .ref (aMo 16), .int (zI mo_size), .int (zI mo_runs), .ref (aMo 19), .ref (aMo 20), .ref (aMo 21), .int (zI mo_found), .int (zI mo_counted), .int (zI mo_isParted), .ref (aMo 25), .ref (aMo 26), .ref (aMo 27), .ref (aMo 28), .ref (aMo 29), .int (zI mo_maybes), .int (zI mo_days), .int (zI mo_over2), .int (zI mo_longer), .ref (aMo 34)])), ((aMo 5), .inl (ca 0, 4, .inl (zA mo_acts))), ((aMo 7), .inl (ca 0, 240, .inl (zA mo_kindOf))), ((aMo 8), .inl (ca 0, 240, .inl (zA mo_lengthOf))), ((aMo 13), .inl (ca 0, 20160, .inl (zA mo_laid))), ((aMo 14), .inl (ca 0, 20161, .inl (zA mo_driven))), ((aMo 15), .inl (ca 0, 60, .inl (zA mo_runFrom))), ((aMo 16), .inl (ca 0, 60, .inl (zA mo_runTo)))] 178 [(0, .ref (aMo 0)), (3, .int (zI v3))] [] := by
        intro v3 mo_driven mo_runFrom mo_runTo mo_runs hf
        unfold fX11_lays_178 at hf
        refine g_aload_n (pc := 178) C 0 dX11_lays_178 rfl rfl ?_
        refine g_get (pc := 179) C zf_X11_53 0 rfl rfl dX11_lays_179 ?_
        refine g_aload_n (pc := 182) C 0 dX11_lays_182 rfl rfl ?_
        refine g_get (pc := 183) C zf_X11_128 0 rfl rfl dX11_lays_183 ?_
        refine g_iconst (pc := 186) C dX11_lays_186 ?_
        refine g_isub (pc := 187) C dX11_lays_187 ?_
        refine g_iload_n (pc := 188) C 1 dX11_lays_188 rfl rfl ?_
        refine g_iconst (pc := 189) C dX11_lays_189 ?_
        refine g_iadd (pc := 190) C dX11_lays_190 ?_
        refine g_iast (pc := 191) C (N := 60) (ws' := [((aMo 0), .inr (11, [.ref (aMo 1), .int (zI mo_taped), .ref (aMo 3), .ref (aMo 4), .ref (aMo 5), .ref (aMo 6), .ref (aMo 7), .ref (aMo 8), .ref (aMo 9), .ref (aMo 10), .ref (aMo 11), .ref (aMo 12), .ref (aMo 13), .ref (aMo 14), .ref (aMo 15), .ref (aMo 16), .int (zI mo_size), .int (zI mo_runs), .ref (aMo 19), .ref (aMo 20), .ref (aMo 21), .int (zI mo_found), .int (zI mo_counted), .int (zI mo_isParted), .ref (aMo 25), .ref (aMo 26), .ref (aMo 27), .ref (aMo 28), .ref (aMo 29), .int (zI mo_maybes), .int (zI mo_days), .int (zI mo_over2), .int (zI mo_longer), .ref (aMo 34)])), ((aMo 5), .inl (ca 0, 4, .inl (zA mo_acts))), ((aMo 7), .inl (ca 0, 240, .inl (zA mo_kindOf))), ((aMo 8), .inl (ca 0, 240, .inl (zA mo_lengthOf))), ((aMo 13), .inl (ca 0, 20160, .inl (zA mo_laid))), ((aMo 14), .inl (ca 0, 20161, .inl (zA mo_driven))), ((aMo 15), .inl (ca 0, 60, .inl (zA mo_runFrom))), ((aMo 16), .inl (ca 0, 60, .inl (zA (zU mo_runTo (mo_runs - 1).toNat (v3 + 1)))))]) 7 rfl rfl (Nat.le_of_ble_eq_true rfl) rfl dX11_lays_191 hf (fun hf => ?_)
        exact H192 _ _ _ _ _ hf
      have H158 : ∀ (v3 : Int) (mo_driven : Nat → Int) (mo_runFrom : Nat → Int) (mo_runTo : Nat → Int) (mo_runs : Int), fX11_lays_158 (zlp (fX11_lays_92 mo_laid mo_size) n92) v3 mo_driven mo_runFrom mo_runTo mo_runs = some Ro → Zd D Γ 0 0 [((aMo 0), .inr (11, [.ref (aMo 1), .int (zI mo_taped), .ref (aMo 3), .ref (aMo 4), .ref (aMo 5), .ref (aMo 6), .ref (aMo 7), .ref (aMo 8), .ref (aMo 9), .ref (aMo 10), .ref (aMo 11), .ref (aMo 12), .ref (aMo 13), .ref (aMo 14), .ref (aMo 15), .ref (aMo 16), .int (zI mo_size), .int (zI mo_runs), .ref (aMo 19), .ref (aMo 20), .ref (aMo 21), .int (zI mo_found), .int (zI mo_counted), .int (zI mo_isParted), .ref (aMo 25), .ref (aMo 26), .ref (aMo 27), .ref (aMo 28), .ref (aMo 29), .int (zI mo_maybes), .int (zI mo_days), .int (zI mo_over2), .int (zI mo_longer), .ref (aMo 34)])), ((aMo 5), .inl (ca 0, 4, .inl (zA mo_acts))), ((aMo 7), .inl (ca 0, 240, .inl (zA mo_kindOf))), ((aMo 8), .inl (ca 0, 240, .inl (zA mo_lengthOf))), ((aMo 13), .inl (ca 0, 20160, .inl (zA mo_laid))), ((aMo 14), .inl (ca 0, 20161, .inl (zA mo_driven))), ((aMo 15), .inl (ca 0, 60, .inl (zA mo_runFrom))), ((aMo 16), .inl (ca 0, 60, .inl (zA mo_runTo)))] 158 [(0, .ref (aMo 0)), (3, .int (zI v3))] [] := by
        intro v3 mo_driven mo_runFrom mo_runTo mo_runs hf
        unfold fX11_lays_158 at hf
        refine g_aload_n (pc := 158) C 0 dX11_lays_158 rfl rfl ?_
        refine g_get (pc := 159) C zf_X11_50 0 rfl rfl dX11_lays_159 ?_
        refine g_aload_n (pc := 162) C 0 dX11_lays_162 rfl rfl ?_
        refine g_get (pc := 163) C zf_X11_128 0 rfl rfl dX11_lays_163 ?_
        refine g_iload_n (pc := 166) C 1 dX11_lays_166 rfl rfl ?_
        refine g_iast (pc := 167) C (N := 60) (ws' := [((aMo 0), .inr (11, [.ref (aMo 1), .int (zI mo_taped), .ref (aMo 3), .ref (aMo 4), .ref (aMo 5), .ref (aMo 6), .ref (aMo 7), .ref (aMo 8), .ref (aMo 9), .ref (aMo 10), .ref (aMo 11), .ref (aMo 12), .ref (aMo 13), .ref (aMo 14), .ref (aMo 15), .ref (aMo 16), .int (zI mo_size), .int (zI mo_runs), .ref (aMo 19), .ref (aMo 20), .ref (aMo 21), .int (zI mo_found), .int (zI mo_counted), .int (zI mo_isParted), .ref (aMo 25), .ref (aMo 26), .ref (aMo 27), .ref (aMo 28), .ref (aMo 29), .int (zI mo_maybes), .int (zI mo_days), .int (zI mo_over2), .int (zI mo_longer), .ref (aMo 34)])), ((aMo 5), .inl (ca 0, 4, .inl (zA mo_acts))), ((aMo 7), .inl (ca 0, 240, .inl (zA mo_kindOf))), ((aMo 8), .inl (ca 0, 240, .inl (zA mo_lengthOf))), ((aMo 13), .inl (ca 0, 20160, .inl (zA mo_laid))), ((aMo 14), .inl (ca 0, 20161, .inl (zA mo_driven))), ((aMo 15), .inl (ca 0, 60, .inl (zA (zU mo_runFrom mo_runs.toNat v3)))), ((aMo 16), .inl (ca 0, 60, .inl (zA mo_runTo)))]) 6 rfl rfl (Nat.le_of_ble_eq_true rfl) rfl dX11_lays_167 hf (fun hf => ?_)
        refine g_aload_n (pc := 168) C 0 dX11_lays_168 rfl rfl ?_
        refine g_aload_n (pc := 169) C 0 dX11_lays_169 rfl rfl ?_
        refine g_get (pc := 170) C zf_X11_128 0 rfl rfl dX11_lays_170 ?_
        refine g_iconst (pc := 173) C dX11_lays_173 ?_
        refine g_iadd (pc := 174) C dX11_lays_174 ?_
        refine g_put (pc := 175) C zf_X11_128 tyX11 tyX11_ok nmX11 (v := .int (zI (mo_runs + 1))) (ws' := [((aMo 0), .inr (11, [.ref (aMo 1), .int (zI mo_taped), .ref (aMo 3), .ref (aMo 4), .ref (aMo 5), .ref (aMo 6), .ref (aMo 7), .ref (aMo 8), .ref (aMo 9), .ref (aMo 10), .ref (aMo 11), .ref (aMo 12), .ref (aMo 13), .ref (aMo 14), .ref (aMo 15), .ref (aMo 16), .int (zI mo_size), .int (zI (mo_runs + 1)), .ref (aMo 19), .ref (aMo 20), .ref (aMo 21), .int (zI mo_found), .int (zI mo_counted), .int (zI mo_isParted), .ref (aMo 25), .ref (aMo 26), .ref (aMo 27), .ref (aMo 28), .ref (aMo 29), .int (zI mo_maybes), .int (zI mo_days), .int (zI mo_over2), .int (zI mo_longer), .ref (aMo 34)])), ((aMo 5), .inl (ca 0, 4, .inl (zA mo_acts))), ((aMo 7), .inl (ca 0, 240, .inl (zA mo_kindOf))), ((aMo 8), .inl (ca 0, 240, .inl (zA mo_lengthOf))), ((aMo 13), .inl (ca 0, 20160, .inl (zA mo_laid))), ((aMo 14), .inl (ca 0, 20161, .inl (zA mo_driven))), ((aMo 15), .inl (ca 0, 60, .inl (zA (zU mo_runFrom mo_runs.toNat v3)))), ((aMo 16), .inl (ca 0, 60, .inl (zA mo_runTo)))]) 0 rfl rfl rfl rfl rfl (Nat.le_of_ble_eq_true rfl) rfl rfl dX11_lays_175 ?_
        exact H178 _ _ _ _ _ hf
      have H127 : ∀ (v3 : Int) (s1 : Int) (s2 : Int) (s3 : Int) (mo_driven : Nat → Int) (mo_runFrom : Nat → Int) (mo_runTo : Nat → Int) (mo_runs : Int), fX11_lays_127 (zlp (fX11_lays_92 mo_laid mo_size) n92) v3 s1 s2 s3 mo_laid mo_driven mo_runFrom mo_runTo mo_runs = some Ro → Zd D Γ 0 0 [((aMo 0), .inr (11, [.ref (aMo 1), .int (zI mo_taped), .ref (aMo 3), .ref (aMo 4), .ref (aMo 5), .ref (aMo 6), .ref (aMo 7), .ref (aMo 8), .ref (aMo 9), .ref (aMo 10), .ref (aMo 11), .ref (aMo 12), .ref (aMo 13), .ref (aMo 14), .ref (aMo 15), .ref (aMo 16), .int (zI mo_size), .int (zI mo_runs), .ref (aMo 19), .ref (aMo 20), .ref (aMo 21), .int (zI mo_found), .int (zI mo_counted), .int (zI mo_isParted), .ref (aMo 25), .ref (aMo 26), .ref (aMo 27), .ref (aMo 28), .ref (aMo 29), .int (zI mo_maybes), .int (zI mo_days), .int (zI mo_over2), .int (zI mo_longer), .ref (aMo 34)])), ((aMo 5), .inl (ca 0, 4, .inl (zA mo_acts))), ((aMo 7), .inl (ca 0, 240, .inl (zA mo_kindOf))), ((aMo 8), .inl (ca 0, 240, .inl (zA mo_lengthOf))), ((aMo 13), .inl (ca 0, 20160, .inl (zA mo_laid))), ((aMo 14), .inl (ca 0, 20161, .inl (zA mo_driven))), ((aMo 15), .inl (ca 0, 60, .inl (zA mo_runFrom))), ((aMo 16), .inl (ca 0, 60, .inl (zA mo_runTo)))] 127 [(0, .ref (aMo 0)), (3, .int (zI v3))] [.int (zI s3), .int (zI s2), .int (zI s1), .ref (aMo 14)] := by
        intro v3 s1 s2 s3 mo_driven mo_runFrom mo_runTo mo_runs hf
        unfold fX11_lays_127 at hf
        refine g_iadd (pc := 127) C dX11_lays_127 ?_
        refine g_iast (pc := 128) C (N := 20161) (ws' := [((aMo 0), .inr (11, [.ref (aMo 1), .int (zI mo_taped), .ref (aMo 3), .ref (aMo 4), .ref (aMo 5), .ref (aMo 6), .ref (aMo 7), .ref (aMo 8), .ref (aMo 9), .ref (aMo 10), .ref (aMo 11), .ref (aMo 12), .ref (aMo 13), .ref (aMo 14), .ref (aMo 15), .ref (aMo 16), .int (zI mo_size), .int (zI mo_runs), .ref (aMo 19), .ref (aMo 20), .ref (aMo 21), .int (zI mo_found), .int (zI mo_counted), .int (zI mo_isParted), .ref (aMo 25), .ref (aMo 26), .ref (aMo 27), .ref (aMo 28), .ref (aMo 29), .int (zI mo_maybes), .int (zI mo_days), .int (zI mo_over2), .int (zI mo_longer), .ref (aMo 34)])), ((aMo 5), .inl (ca 0, 4, .inl (zA mo_acts))), ((aMo 7), .inl (ca 0, 240, .inl (zA mo_kindOf))), ((aMo 8), .inl (ca 0, 240, .inl (zA mo_lengthOf))), ((aMo 13), .inl (ca 0, 20160, .inl (zA mo_laid))), ((aMo 14), .inl (ca 0, 20161, .inl (zA (zU mo_driven s1.toNat (s2 + s3))))), ((aMo 15), .inl (ca 0, 60, .inl (zA mo_runFrom))), ((aMo 16), .inl (ca 0, 60, .inl (zA mo_runTo)))]) 5 rfl rfl (Nat.le_of_ble_eq_true rfl) rfl dX11_lays_128 hf (fun hf => ?_)
        refine g_aload_n (pc := 129) C 0 dX11_lays_129 rfl rfl ?_
        refine g_get (pc := 130) C zf_X11_44 0 rfl rfl dX11_lays_130 ?_
        refine g_iload_n (pc := 133) C 1 dX11_lays_133 rfl rfl ?_
        refine g_iald (pc := 134) C (N := 20160) 4 rfl rfl (Nat.le_of_ble_eq_true rfl) dX11_lays_134 hf (fun hf => ?_)
        refine g_iconst (pc := 135) C dX11_lays_135 ?_
        refine g_icmp_eqr (pc := 136) C (tgt := 142) dX11_lays_136 (by decide) (by decide) hf (fun hf => ?_) (fun hf => ?_)
        · refine g_iload_n (pc := 142) C 1 dX11_lays_142 rfl rfl ?_
          refine g_if_eq (pc := 143) C (tgt := 158) dX11_lays_143 (by decide) hf (fun hf => ?_) (fun hf => ?_)
          · exact H158 _ _ _ _ _ hf
          · refine g_aload_n (pc := 146) C 0 dX11_lays_146 rfl rfl ?_
            refine g_get (pc := 147) C zf_X11_44 0 rfl rfl dX11_lays_147 ?_
            refine g_iload_n (pc := 150) C 1 dX11_lays_150 rfl rfl ?_
            refine g_iconst (pc := 151) C dX11_lays_151 ?_
            refine g_isub (pc := 152) C dX11_lays_152 ?_
            refine g_iald (pc := 153) C (N := 20160) 4 rfl rfl (Nat.le_of_ble_eq_true rfl) dX11_lays_153 hf (fun hf => ?_)
            refine g_iconst (pc := 154) C dX11_lays_154 ?_
            refine g_icmp_eqr (pc := 155) C (tgt := 178) dX11_lays_155 (by decide) (by decide) hf (fun hf => ?_) (fun hf => ?_)
            · exact H178 _ _ _ _ _ hf
            · exact H158 _ _ _ _ _ hf
        · refine g_goto (pc := 139) C (tgt := 192) dX11_lays_139 (by decide) ?_
          exact H192 _ _ _ _ _ hf
      intro v3 mo_driven mo_runFrom mo_runTo mo_runs hf
      rw [zlp_s] at hf
      unfold fX11_lays_92 at hf
      dsimp only at hf
      refine g_iload_n (pc := 92) C 1 dX11_lays_92 rfl rfl ?_
      refine g_aload_n (pc := 93) C 0 dX11_lays_93 rfl rfl ?_
      refine g_get (pc := 94) C zf_X11_121 0 rfl rfl dX11_lays_94 ?_
      refine g_icmp_ge (pc := 97) C (tgt := 198) dX11_lays_97 (by decide) hf (fun hf => ?_) (fun hf => ?_)
      · exact g_vret (pc := 198) C hf E rfl (fun _ => 0) [0, 1, 2, 3, 4, 5, 6, 7] (by decide) rfl rfl (Nat.le_refl _) (Nat.le_refl _) dX11_lays_198
      · refine g_aload_n (pc := 100) C 0 dX11_lays_100 rfl rfl ?_
        refine g_get (pc := 101) C zf_X11_47 0 rfl rfl dX11_lays_101 ?_
        refine g_iload_n (pc := 104) C 1 dX11_lays_104 rfl rfl ?_
        refine g_iconst (pc := 105) C dX11_lays_105 ?_
        refine g_iadd (pc := 106) C dX11_lays_106 ?_
        refine g_aload_n (pc := 107) C 0 dX11_lays_107 rfl rfl ?_
        refine g_get (pc := 108) C zf_X11_47 0 rfl rfl dX11_lays_108 ?_
        refine g_iload_n (pc := 111) C 1 dX11_lays_111 rfl rfl ?_
        refine g_iald (pc := 112) C (N := 20161) 5 rfl rfl (Nat.le_of_ble_eq_true rfl) dX11_lays_112 hf (fun hf => ?_)
        refine g_aload_n (pc := 113) C 0 dX11_lays_113 rfl rfl ?_
        refine g_get (pc := 114) C zf_X11_44 0 rfl rfl dX11_lays_114 ?_
        refine g_iload_n (pc := 117) C 1 dX11_lays_117 rfl rfl ?_
        refine g_iald (pc := 118) C (N := 20160) 4 rfl rfl (Nat.le_of_ble_eq_true rfl) dX11_lays_118 hf (fun hf => ?_)
        refine g_if_ne (pc := 119) C (tgt := 126) dX11_lays_119 (by decide) hf (fun hf => ?_) (fun hf => ?_)
        · refine g_iconst (pc := 126) C dX11_lays_126 ?_
          exact H127 _ _ _ _ _ _ _ _ hf
        · refine g_iconst (pc := 122) C dX11_lays_122 ?_
          refine g_goto (pc := 123) C (tgt := 127) dX11_lays_123 (by decide) ?_
          exact H127 _ _ _ _ _ _ _ _ hf
  have H7 : ∀ (mo_driven : Nat → Int) (mo_runFrom : Nat → Int) (mo_runTo : Nat → Int) (mo_runs : Int) (n7 : Nat) (v3 : Int) (mo_laid : Nat → Int) (mo_size : Int), zlp (fX11_lays_7 v1 v2 mo_acts mo_kindOf mo_lengthOf mo_driven mo_runFrom mo_runTo) n7 (v3, mo_laid, mo_size) = some Ro → Zd D Γ 0 0 [((aMo 0), .inr (11, [.ref (aMo 1), .int (zI mo_taped), .ref (aMo 3), .ref (aMo 4), .ref (aMo 5), .ref (aMo 6), .ref (aMo 7), .ref (aMo 8), .ref (aMo 9), .ref (aMo 10), .ref (aMo 11), .ref (aMo 12), .ref (aMo 13), .ref (aMo 14), .ref (aMo 15), .ref (aMo 16), .int (zI mo_size), .int (zI mo_runs), .ref (aMo 19), .ref (aMo 20), .ref (aMo 21), .int (zI mo_found), .int (zI mo_counted), .int (zI mo_isParted), .ref (aMo 25), .ref (aMo 26), .ref (aMo 27), .ref (aMo 28), .ref (aMo 29), .int (zI mo_maybes), .int (zI mo_days), .int (zI mo_over2), .int (zI mo_longer), .ref (aMo 34)])), ((aMo 5), .inl (ca 0, 4, .inl (zA mo_acts))), ((aMo 7), .inl (ca 0, 240, .inl (zA mo_kindOf))), ((aMo 8), .inl (ca 0, 240, .inl (zA mo_lengthOf))), ((aMo 13), .inl (ca 0, 20160, .inl (zA mo_laid))), ((aMo 14), .inl (ca 0, 20161, .inl (zA mo_driven))), ((aMo 15), .inl (ca 0, 60, .inl (zA mo_runFrom))), ((aMo 16), .inl (ca 0, 60, .inl (zA mo_runTo)))] 7 [(0, .ref (aMo 0)), (1, .int (zI v1)), (2, .int (zI v2)), (3, .int (zI v3))] [] := by
    intro mo_driven mo_runFrom mo_runTo mo_runs
    intro n7
    induction n7 with
    | zero =>
      intro v3 mo_laid mo_size hf
      exact zno hf
    | succ n7 ih7 =>
      have H29 : ∀ (v3 : Int) (v4 : Int) (n29 : Nat) (v5 : Int) (mo_laid : Nat → Int) (mo_size : Int), zlp (fX11_lays_29 (zlp (fX11_lays_7 v1 v2 mo_acts mo_kindOf mo_lengthOf mo_driven mo_runFrom mo_runTo) n7) v1 v3 v4 mo_lengthOf) n29 (v5, mo_laid, mo_size) = some Ro → Zd D Γ 0 0 [((aMo 0), .inr (11, [.ref (aMo 1), .int (zI mo_taped), .ref (aMo 3), .ref (aMo 4), .ref (aMo 5), .ref (aMo 6), .ref (aMo 7), .ref (aMo 8), .ref (aMo 9), .ref (aMo 10), .ref (aMo 11), .ref (aMo 12), .ref (aMo 13), .ref (aMo 14), .ref (aMo 15), .ref (aMo 16), .int (zI mo_size), .int (zI mo_runs), .ref (aMo 19), .ref (aMo 20), .ref (aMo 21), .int (zI mo_found), .int (zI mo_counted), .int (zI mo_isParted), .ref (aMo 25), .ref (aMo 26), .ref (aMo 27), .ref (aMo 28), .ref (aMo 29), .int (zI mo_maybes), .int (zI mo_days), .int (zI mo_over2), .int (zI mo_longer), .ref (aMo 34)])), ((aMo 5), .inl (ca 0, 4, .inl (zA mo_acts))), ((aMo 7), .inl (ca 0, 240, .inl (zA mo_kindOf))), ((aMo 8), .inl (ca 0, 240, .inl (zA mo_lengthOf))), ((aMo 13), .inl (ca 0, 20160, .inl (zA mo_laid))), ((aMo 14), .inl (ca 0, 20161, .inl (zA mo_driven))), ((aMo 15), .inl (ca 0, 60, .inl (zA mo_runFrom))), ((aMo 16), .inl (ca 0, 60, .inl (zA mo_runTo)))] 29 [(0, .ref (aMo 0)), (1, .int (zI v1)), (2, .int (zI v2)), (3, .int (zI v3)), (4, .int (zI v4)), (5, .int (zI v5))] [] := by
        intro v3 v4
        intro n29
        induction n29 with
        | zero =>
          intro v5 mo_laid mo_size hf
          exact zno hf
        | succ n29 ih29 =>
          intro v5 mo_laid mo_size hf
          rw [zlp_s] at hf
          unfold fX11_lays_29 at hf
          dsimp only at hf
          refine g_iload (pc := 29) C 5 dX11_lays_29 rfl ?_
          refine g_aload_n (pc := 31) C 0 dX11_lays_31 rfl rfl ?_
          refine g_get (pc := 32) C zf_X11_29 0 rfl rfl dX11_lays_32 ?_
          refine g_bipush (pc := 35) C dX11_lays_35 (by decide) ?_
          refine g_iload_n (pc := 37) C 1 dX11_lays_37 rfl rfl ?_
          refine g_imul (pc := 38) C dX11_lays_38 ?_
          refine g_iload_n (pc := 39) C 3 dX11_lays_39 rfl rfl ?_
          refine g_iadd (pc := 40) C dX11_lays_40 ?_
          refine g_iald (pc := 41) C (N := 240) 3 rfl rfl (Nat.le_of_ble_eq_true rfl) dX11_lays_41 hf (fun hf => ?_)
          refine g_icmp_ge (pc := 42) C (tgt := 72) dX11_lays_42 (by decide) hf (fun hf => ?_) (fun hf => ?_)
          · refine g_iinc (pc := 72) C 3 (lv' := [(3, .int (zI (v3 + 1))), (0, .ref (aMo 0)), (1, .int (zI v1)), (2, .int (zI v2)), (4, .int (zI v4)), (5, .int (zI v5))]) dX11_lays_72 rfl (Nat.le_of_ble_eq_true rfl) rfl ?_
            refine g_goto (pc := 75) C (tgt := 7) dX11_lays_75 (by decide) ?_
            refine g_sub [0, 1, 2, 3, 4, 5, 6, 7] [1, 2, 3, 0] (by decide) rfl rfl rfl ?_
            exact ih7 _ _ _ hf
          · refine g_aload_n (pc := 45) C 0 dX11_lays_45 rfl rfl ?_
            refine g_get (pc := 46) C zf_X11_44 0 rfl rfl dX11_lays_46 ?_
            refine g_aload_n (pc := 49) C 0 dX11_lays_49 rfl rfl ?_
            refine g_get (pc := 50) C zf_X11_121 0 rfl rfl dX11_lays_50 ?_
            refine g_iload (pc := 53) C 4 dX11_lays_53 rfl ?_
            refine g_iast (pc := 55) C (N := 20160) (ws' := [((aMo 0), .inr (11, [.ref (aMo 1), .int (zI mo_taped), .ref (aMo 3), .ref (aMo 4), .ref (aMo 5), .ref (aMo 6), .ref (aMo 7), .ref (aMo 8), .ref (aMo 9), .ref (aMo 10), .ref (aMo 11), .ref (aMo 12), .ref (aMo 13), .ref (aMo 14), .ref (aMo 15), .ref (aMo 16), .int (zI mo_size), .int (zI mo_runs), .ref (aMo 19), .ref (aMo 20), .ref (aMo 21), .int (zI mo_found), .int (zI mo_counted), .int (zI mo_isParted), .ref (aMo 25), .ref (aMo 26), .ref (aMo 27), .ref (aMo 28), .ref (aMo 29), .int (zI mo_maybes), .int (zI mo_days), .int (zI mo_over2), .int (zI mo_longer), .ref (aMo 34)])), ((aMo 5), .inl (ca 0, 4, .inl (zA mo_acts))), ((aMo 7), .inl (ca 0, 240, .inl (zA mo_kindOf))), ((aMo 8), .inl (ca 0, 240, .inl (zA mo_lengthOf))), ((aMo 13), .inl (ca 0, 20160, .inl (zA (zU mo_laid mo_size.toNat v4)))), ((aMo 14), .inl (ca 0, 20161, .inl (zA mo_driven))), ((aMo 15), .inl (ca 0, 60, .inl (zA mo_runFrom))), ((aMo 16), .inl (ca 0, 60, .inl (zA mo_runTo)))]) 4 rfl rfl (Nat.le_of_ble_eq_true rfl) rfl dX11_lays_55 hf (fun hf => ?_)
            refine g_aload_n (pc := 56) C 0 dX11_lays_56 rfl rfl ?_
            refine g_aload_n (pc := 57) C 0 dX11_lays_57 rfl rfl ?_
            refine g_get (pc := 58) C zf_X11_121 0 rfl rfl dX11_lays_58 ?_
            refine g_iconst (pc := 61) C dX11_lays_61 ?_
            refine g_iadd (pc := 62) C dX11_lays_62 ?_
            refine g_put (pc := 63) C zf_X11_121 tyX11 tyX11_ok nmX11 (v := .int (zI (mo_size + 1))) (ws' := [((aMo 0), .inr (11, [.ref (aMo 1), .int (zI mo_taped), .ref (aMo 3), .ref (aMo 4), .ref (aMo 5), .ref (aMo 6), .ref (aMo 7), .ref (aMo 8), .ref (aMo 9), .ref (aMo 10), .ref (aMo 11), .ref (aMo 12), .ref (aMo 13), .ref (aMo 14), .ref (aMo 15), .ref (aMo 16), .int (zI (mo_size + 1)), .int (zI mo_runs), .ref (aMo 19), .ref (aMo 20), .ref (aMo 21), .int (zI mo_found), .int (zI mo_counted), .int (zI mo_isParted), .ref (aMo 25), .ref (aMo 26), .ref (aMo 27), .ref (aMo 28), .ref (aMo 29), .int (zI mo_maybes), .int (zI mo_days), .int (zI mo_over2), .int (zI mo_longer), .ref (aMo 34)])), ((aMo 5), .inl (ca 0, 4, .inl (zA mo_acts))), ((aMo 7), .inl (ca 0, 240, .inl (zA mo_kindOf))), ((aMo 8), .inl (ca 0, 240, .inl (zA mo_lengthOf))), ((aMo 13), .inl (ca 0, 20160, .inl (zA (zU mo_laid mo_size.toNat v4)))), ((aMo 14), .inl (ca 0, 20161, .inl (zA mo_driven))), ((aMo 15), .inl (ca 0, 60, .inl (zA mo_runFrom))), ((aMo 16), .inl (ca 0, 60, .inl (zA mo_runTo)))]) 0 rfl rfl rfl rfl rfl (Nat.le_of_ble_eq_true rfl) rfl rfl dX11_lays_63 ?_
            refine g_iinc (pc := 66) C 5 (lv' := [(5, .int (zI (v5 + 1))), (0, .ref (aMo 0)), (1, .int (zI v1)), (2, .int (zI v2)), (3, .int (zI v3)), (4, .int (zI v4))]) dX11_lays_66 rfl (Nat.le_of_ble_eq_true rfl) rfl ?_
            refine g_goto (pc := 69) C (tgt := 29) dX11_lays_69 (by decide) ?_
            refine g_sub [0, 1, 2, 3, 4, 5, 6, 7] [1, 2, 3, 4, 5, 0] (by decide) rfl rfl rfl ?_
            exact ih29 _ _ _ hf
      intro v3 mo_laid mo_size hf
      rw [zlp_s] at hf
      unfold fX11_lays_7 at hf
      dsimp only at hf
      refine g_iload_n (pc := 7) C 3 dX11_lays_7 rfl rfl ?_
      refine g_aload_n (pc := 8) C 0 dX11_lays_8 rfl rfl ?_
      refine g_get (pc := 9) C zf_X11_20 0 rfl rfl dX11_lays_9 ?_
      refine g_iload_n (pc := 12) C 1 dX11_lays_12 rfl rfl ?_
      refine g_iald (pc := 13) C (N := 4) 1 rfl rfl (Nat.le_of_ble_eq_true rfl) dX11_lays_13 hf (fun hf => ?_)
      refine g_icmp_ge (pc := 14) C (tgt := 78) dX11_lays_14 (by decide) hf (fun hf => ?_) (fun hf => ?_)
      · refine g_aload_n (pc := 78) C 0 dX11_lays_78 rfl rfl ?_
        refine g_get (pc := 79) C zf_X11_47 0 rfl rfl dX11_lays_79 ?_
        refine g_iconst (pc := 82) C dX11_lays_82 ?_
        refine g_iconst (pc := 83) C dX11_lays_83 ?_
        refine g_iastK (pc := 84) C (ws' := [((aMo 0), .inr (11, [.ref (aMo 1), .int (zI mo_taped), .ref (aMo 3), .ref (aMo 4), .ref (aMo 5), .ref (aMo 6), .ref (aMo 7), .ref (aMo 8), .ref (aMo 9), .ref (aMo 10), .ref (aMo 11), .ref (aMo 12), .ref (aMo 13), .ref (aMo 14), .ref (aMo 15), .ref (aMo 16), .int (zI mo_size), .int (zI mo_runs), .ref (aMo 19), .ref (aMo 20), .ref (aMo 21), .int (zI mo_found), .int (zI mo_counted), .int (zI mo_isParted), .ref (aMo 25), .ref (aMo 26), .ref (aMo 27), .ref (aMo 28), .ref (aMo 29), .int (zI mo_maybes), .int (zI mo_days), .int (zI mo_over2), .int (zI mo_longer), .ref (aMo 34)])), ((aMo 5), .inl (ca 0, 4, .inl (zA mo_acts))), ((aMo 7), .inl (ca 0, 240, .inl (zA mo_kindOf))), ((aMo 8), .inl (ca 0, 240, .inl (zA mo_lengthOf))), ((aMo 13), .inl (ca 0, 20160, .inl (zA mo_laid))), ((aMo 14), .inl (ca 0, 20161, .inl (zA (zU mo_driven 0 0)))), ((aMo 15), .inl (ca 0, 60, .inl (zA mo_runFrom))), ((aMo 16), .inl (ca 0, 60, .inl (zA mo_runTo)))]) 0 5 rfl rfl (Nat.le_of_ble_eq_true rfl) (Nat.le_of_ble_eq_true rfl) rfl dX11_lays_84 ?_
        refine g_aload_n (pc := 85) C 0 dX11_lays_85 rfl rfl ?_
        refine g_iconst (pc := 86) C dX11_lays_86 ?_
        refine g_put (pc := 87) C zf_X11_128 tyX11 tyX11_ok nmX11 (v := .int (zI 0)) (ws' := [((aMo 0), .inr (11, [.ref (aMo 1), .int (zI mo_taped), .ref (aMo 3), .ref (aMo 4), .ref (aMo 5), .ref (aMo 6), .ref (aMo 7), .ref (aMo 8), .ref (aMo 9), .ref (aMo 10), .ref (aMo 11), .ref (aMo 12), .ref (aMo 13), .ref (aMo 14), .ref (aMo 15), .ref (aMo 16), .int (zI mo_size), .int (zI 0), .ref (aMo 19), .ref (aMo 20), .ref (aMo 21), .int (zI mo_found), .int (zI mo_counted), .int (zI mo_isParted), .ref (aMo 25), .ref (aMo 26), .ref (aMo 27), .ref (aMo 28), .ref (aMo 29), .int (zI mo_maybes), .int (zI mo_days), .int (zI mo_over2), .int (zI mo_longer), .ref (aMo 34)])), ((aMo 5), .inl (ca 0, 4, .inl (zA mo_acts))), ((aMo 7), .inl (ca 0, 240, .inl (zA mo_kindOf))), ((aMo 8), .inl (ca 0, 240, .inl (zA mo_lengthOf))), ((aMo 13), .inl (ca 0, 20160, .inl (zA mo_laid))), ((aMo 14), .inl (ca 0, 20161, .inl (zA (zU mo_driven 0 0)))), ((aMo 15), .inl (ca 0, 60, .inl (zA mo_runFrom))), ((aMo 16), .inl (ca 0, 60, .inl (zA mo_runTo)))]) 0 rfl rfl rfl rfl rfl (Nat.le_of_ble_eq_true rfl) rfl rfl dX11_lays_87 ?_
        refine g_iconst (pc := 90) C dX11_lays_90 ?_
        refine g_istore_n (pc := 91) C (lv' := [(3, .int (zI 0)), (0, .ref (aMo 0)), (1, .int (zI v1)), (2, .int (zI v2))]) dX11_lays_91 rfl (Nat.le_of_ble_eq_true rfl) rfl ?_
        refine g_sub [0, 1, 2, 3, 4, 5, 6, 7] [1, 0] (by decide) rfl rfl rfl ?_
        exact H92 _ _ _ _ _ _ _ _ hf
      · refine g_aload_n (pc := 17) C 0 dX11_lays_17 rfl rfl ?_
        refine g_iload_n (pc := 18) C 1 dX11_lays_18 rfl rfl ?_
        refine g_iload_n (pc := 19) C 3 dX11_lays_19 rfl rfl ?_
        refine g_iload_n (pc := 20) C 2 dX11_lays_20 rfl rfl ?_
        obtain ⟨r_21, hc_21, hf⟩ := Option.bind_eq_some_iff.mp hf
        refine g_callV (pc := 21) C hl0 (wr := [((aMo 8), .inl (ca 0, 240, .inl (zA mo_lengthOf))), ((aMo 13), .inl (ca 0, 20160, .inl (zA mo_laid))), ((aMo 14), .inl (ca 0, 20161, .inl (zA mo_driven))), ((aMo 15), .inl (ca 0, 60, .inl (zA mo_runFrom))), ((aMo 16), .inl (ca 0, 60, .inl (zA mo_runTo)))]) (k' := 0) (n' := 0) (ws' := fun _ => [((aMo 8), .inl (ca 0, 240, .inl (zA mo_lengthOf))), ((aMo 13), .inl (ca 0, 20160, .inl (zA mo_laid))), ((aMo 14), .inl (ca 0, 20161, .inl (zA mo_driven))), ((aMo 15), .inl (ca 0, 60, .inl (zA mo_runFrom))), ((aMo 16), .inl (ca 0, 60, .inl (zA mo_runTo))), ((aMo 0), .inr (11, [.ref (aMo 1), .int (zI mo_taped), .ref (aMo 3), .ref (aMo 4), .ref (aMo 5), .ref (aMo 6), .ref (aMo 7), .ref (aMo 8), .ref (aMo 9), .ref (aMo 10), .ref (aMo 11), .ref (aMo 12), .ref (aMo 13), .ref (aMo 14), .ref (aMo 15), .ref (aMo 16), .int (zI mo_size), .int (zI mo_runs), .ref (aMo 19), .ref (aMo 20), .ref (aMo 21), .int (zI mo_found), .int (zI mo_counted), .int (zI mo_isParted), .ref (aMo 25), .ref (aMo 26), .ref (aMo 27), .ref (aMo 28), .ref (aMo 29), .int (zI mo_maybes), .int (zI mo_days), .int (zI mo_over2), .int (zI mo_longer), .ref (aMo 34)])), ((aMo 5), .inl (ca 0, 4, .inl (zA mo_acts))), ((aMo 7), .inl (ca 0, 240, .inl (zA mo_kindOf)))]) (st' := [.int (zI r_21)]) (kX11_readAs l D ca aMo mo_taped mo_acts mo_kindOf mo_size mo_runs mo_found mo_counted mo_isParted mo_maybes mo_days mo_over2 mo_longer v1 v3 v2 r_21 hc_21) wml_RX11_124 wim_X11_readAs wse_X11_readAs win_RX11 wco_X11_readAs (nA := 3) rfl (by decide +kernel)  ⟨(Nat.le_of_ble_eq_true rfl), (Nat.le_of_ble_eq_true rfl)⟩ (Nat.le_refl _) (Nat.le_refl _) rfl (Nat.le_of_ble_eq_true rfl) dX11_lays_21 0 11 rfl rfl rfl [0, 1, 2] [3, 4, 5, 6, 7] rfl rfl rfl (by decide) (by decide) (by decide) rfl rfl (fun _ => rfl) rfl (fun _ => ?_)
        refine g_istore (pc := 24) C (lv' := [(4, .int (zI r_21)), (0, .ref (aMo 0)), (1, .int (zI v1)), (2, .int (zI v2)), (3, .int (zI v3))]) dX11_lays_24 (Nat.le_of_ble_eq_true rfl) rfl ?_
        refine g_iconst (pc := 26) C dX11_lays_26 ?_
        refine g_istore (pc := 27) C (lv' := [(5, .int (zI 0)), (4, .int (zI r_21)), (0, .ref (aMo 0)), (1, .int (zI v1)), (2, .int (zI v2)), (3, .int (zI v3))]) dX11_lays_27 (Nat.le_of_ble_eq_true rfl) rfl ?_
        refine g_sub [5, 6, 7, 0, 1, 2, 3, 4] [2, 3, 4, 5, 1, 0] (by decide) rfl rfl rfl ?_
        exact H29 _ _ _ _ _ _ hf
  unfold fX11_lays at hf
  refine g_aload_n (pc := 0) C 0 dX11_lays_0 rfl rfl ?_
  refine g_iconst (pc := 1) C dX11_lays_1 ?_
  refine g_put (pc := 2) C zf_X11_121 tyX11 tyX11_ok nmX11 (v := .int (zI 0)) (ws' := [((aMo 0), .inr (11, [.ref (aMo 1), .int (zI mo_taped), .ref (aMo 3), .ref (aMo 4), .ref (aMo 5), .ref (aMo 6), .ref (aMo 7), .ref (aMo 8), .ref (aMo 9), .ref (aMo 10), .ref (aMo 11), .ref (aMo 12), .ref (aMo 13), .ref (aMo 14), .ref (aMo 15), .ref (aMo 16), .int (zI 0), .int (zI mo_runs), .ref (aMo 19), .ref (aMo 20), .ref (aMo 21), .int (zI mo_found), .int (zI mo_counted), .int (zI mo_isParted), .ref (aMo 25), .ref (aMo 26), .ref (aMo 27), .ref (aMo 28), .ref (aMo 29), .int (zI mo_maybes), .int (zI mo_days), .int (zI mo_over2), .int (zI mo_longer), .ref (aMo 34)])), ((aMo 5), .inl (ca 0, 4, .inl (zA mo_acts))), ((aMo 7), .inl (ca 0, 240, .inl (zA mo_kindOf))), ((aMo 8), .inl (ca 0, 240, .inl (zA mo_lengthOf))), ((aMo 13), .inl (ca 0, 20160, .inl (zA mo_laid))), ((aMo 14), .inl (ca 0, 20161, .inl (zA mo_driven))), ((aMo 15), .inl (ca 0, 60, .inl (zA mo_runFrom))), ((aMo 16), .inl (ca 0, 60, .inl (zA mo_runTo)))]) 0 rfl rfl rfl rfl rfl (Nat.le_of_ble_eq_true rfl) rfl rfl dX11_lays_2 ?_
  refine g_iconst (pc := 5) C dX11_lays_5 ?_
  refine g_istore_n (pc := 6) C (lv' := [(3, .int (zI 0)), (0, .ref (aMo 0)), (1, .int (zI v1)), (2, .int (zI v2))]) dX11_lays_6 rfl (Nat.le_of_ble_eq_true rfl) rfl ?_
  refine g_sub [0, 1, 2, 3, 4, 5, 6, 7] [1, 2, 3, 0] (by decide) rfl rfl rfl ?_
  exact H7 _ _ _ _ _ _ _ _ hf
def oX11_runLength (ca : Nat → ClassId) (aMo : Nat → Nat) (mo_taped : Int) (mo_runFrom : Nat → Int) (mo_runTo : Nat → Int) (mo_size : Int) (mo_runs : Int) (mo_found : Int) (mo_counted : Int) (mo_isParted : Int) (mo_maybes : Int) (mo_days : Int) (mo_over2 : Int) (mo_longer : Int) (Ro : Int) : (Nat → Nat) → va_W := fun _ => [((aMo 0), .inr (11, [.ref (aMo 1), .int (zI mo_taped), .ref (aMo 3), .ref (aMo 4), .ref (aMo 5), .ref (aMo 6), .ref (aMo 7), .ref (aMo 8), .ref (aMo 9), .ref (aMo 10), .ref (aMo 11), .ref (aMo 12), .ref (aMo 13), .ref (aMo 14), .ref (aMo 15), .ref (aMo 16), .int (zI mo_size), .int (zI mo_runs), .ref (aMo 19), .ref (aMo 20), .ref (aMo 21), .int (zI mo_found), .int (zI mo_counted), .int (zI mo_isParted), .ref (aMo 25), .ref (aMo 26), .ref (aMo 27), .ref (aMo 28), .ref (aMo 29), .int (zI mo_maybes), .int (zI mo_days), .int (zI mo_over2), .int (zI mo_longer), .ref (aMo 34)])), ((aMo 15), .inl (ca 0, 60, .inl (zA mo_runFrom))), ((aMo 16), .inl (ca 0, 60, .inl (zA mo_runTo)))]
def oiX11_runLength (Ro : Int) : Option Value := (some (.int (zI Ro)))
set_option maxRecDepth 100000 in
theorem kX11_runLength (l : Launch) (D : va_G) (ca : Nat → ClassId) (aMo : Nat → Nat) (mo_taped : Int) (mo_runFrom : Nat → Int) (mo_runTo : Nat → Int) (mo_size : Int) (mo_runs : Int) (mo_found : Int) (mo_counted : Int) (mo_isParted : Int) (mo_maybes : Int) (mo_days : Int) (mo_over2 : Int) (mo_longer : Int) (v1 : Int) (Ro : Int)
    (hf : fX11_runLength v1 mo_runFrom mo_runTo = some Ro) : Zc l D ca yX11_runLength cX11_runLength 2 (some .int) { frames := 0, cells := 0, slots := 0, locals := 0 } [.ref (aMo 0), .int (zI v1)] [((aMo 0), .inr (11, [.ref (aMo 1), .int (zI mo_taped), .ref (aMo 3), .ref (aMo 4), .ref (aMo 5), .ref (aMo 6), .ref (aMo 7), .ref (aMo 8), .ref (aMo 9), .ref (aMo 10), .ref (aMo 11), .ref (aMo 12), .ref (aMo 13), .ref (aMo 14), .ref (aMo 15), .ref (aMo 16), .int (zI mo_size), .int (zI mo_runs), .ref (aMo 19), .ref (aMo 20), .ref (aMo 21), .int (zI mo_found), .int (zI mo_counted), .int (zI mo_isParted), .ref (aMo 25), .ref (aMo 26), .ref (aMo 27), .ref (aMo 28), .ref (aMo 29), .int (zI mo_maybes), .int (zI mo_days), .int (zI mo_over2), .int (zI mo_longer), .ref (aMo 34)])), ((aMo 15), .inl (ca 0, 60, .inl (zA mo_runFrom))), ((aMo 16), .inl (ca 0, 60, .inl (zA mo_runTo)))] (oiX11_runLength Ro) (oX11_runLength ca aMo mo_taped mo_runFrom mo_runTo mo_size mo_runs mo_found mo_counted mo_isParted mo_maybes mo_days mo_over2 mo_longer Ro) := by
  refine ctr_of (lv := [(0, .ref (aMo 0)), (1, .int (zI v1))]) (by decide +kernel) (Nat.le_of_ble_eq_true rfl) rfl (fun Γ hl0 C E hnm => ?_)
  unfold fX11_runLength at hf
  refine g_aload_n (pc := 0) C 0 dX11_runLength_0 rfl rfl ?_
  refine g_get (pc := 1) C zf_X11_53 0 rfl rfl dX11_runLength_1 ?_
  refine g_iload_n (pc := 4) C 1 dX11_runLength_4 rfl rfl ?_
  refine g_iald (pc := 5) C (N := 60) 2 rfl rfl (Nat.le_of_ble_eq_true rfl) dX11_runLength_5 hf (fun hf => ?_)
  refine g_aload_n (pc := 6) C 0 dX11_runLength_6 rfl rfl ?_
  refine g_get (pc := 7) C zf_X11_50 0 rfl rfl dX11_runLength_7 ?_
  refine g_iload_n (pc := 10) C 1 dX11_runLength_10 rfl rfl ?_
  refine g_iald (pc := 11) C (N := 60) 1 rfl rfl (Nat.le_of_ble_eq_true rfl) dX11_runLength_11 hf (fun hf => ?_)
  refine g_isub (pc := 12) C dX11_runLength_12 ?_
  exact g_iret (pc := 13) C hf E rfl (fun _ => 0) [0, 1, 2] (by decide) rfl rfl (Nat.le_refl _) (Nat.le_refl _) dX11_runLength_13
def oX11_resets (ca : Nat → ClassId) (aMo : Nat → Nat) (mo_taped : Int) (mo_rules : Nat → Int) (mo_size : Int) (mo_runs : Int) (mo_found : Int) (mo_counted : Int) (mo_isParted : Int) (mo_maybes : Int) (mo_days : Int) (mo_over2 : Int) (mo_longer : Int) (Ro : Int) : (Nat → Nat) → va_W := fun _ => [((aMo 0), .inr (11, [.ref (aMo 1), .int (zI mo_taped), .ref (aMo 3), .ref (aMo 4), .ref (aMo 5), .ref (aMo 6), .ref (aMo 7), .ref (aMo 8), .ref (aMo 9), .ref (aMo 10), .ref (aMo 11), .ref (aMo 12), .ref (aMo 13), .ref (aMo 14), .ref (aMo 15), .ref (aMo 16), .int (zI mo_size), .int (zI mo_runs), .ref (aMo 19), .ref (aMo 20), .ref (aMo 21), .int (zI mo_found), .int (zI mo_counted), .int (zI mo_isParted), .ref (aMo 25), .ref (aMo 26), .ref (aMo 27), .ref (aMo 28), .ref (aMo 29), .int (zI mo_maybes), .int (zI mo_days), .int (zI mo_over2), .int (zI mo_longer), .ref (aMo 34)])), ((aMo 3), .inl (ca 0, 11, .inl (zA mo_rules)))]
def oiX11_resets (Ro : Int) : Option Value := (some (.int (zI Ro)))
set_option maxRecDepth 100000 in
theorem kX11_resets (l : Launch) (D : va_G) (ca : Nat → ClassId) (aMo : Nat → Nat) (mo_taped : Int) (mo_rules : Nat → Int) (mo_size : Int) (mo_runs : Int) (mo_found : Int) (mo_counted : Int) (mo_isParted : Int) (mo_maybes : Int) (mo_days : Int) (mo_over2 : Int) (mo_longer : Int) (v1 : Int) (Ro : Int)
    (hf : fX11_resets v1 mo_rules mo_isParted = some Ro) : Zc l D ca yX11_resets cX11_resets 2 (some .boolean) { frames := 0, cells := 0, slots := 0, locals := 0 } [.ref (aMo 0), .int (zI v1)] [((aMo 0), .inr (11, [.ref (aMo 1), .int (zI mo_taped), .ref (aMo 3), .ref (aMo 4), .ref (aMo 5), .ref (aMo 6), .ref (aMo 7), .ref (aMo 8), .ref (aMo 9), .ref (aMo 10), .ref (aMo 11), .ref (aMo 12), .ref (aMo 13), .ref (aMo 14), .ref (aMo 15), .ref (aMo 16), .int (zI mo_size), .int (zI mo_runs), .ref (aMo 19), .ref (aMo 20), .ref (aMo 21), .int (zI mo_found), .int (zI mo_counted), .int (zI mo_isParted), .ref (aMo 25), .ref (aMo 26), .ref (aMo 27), .ref (aMo 28), .ref (aMo 29), .int (zI mo_maybes), .int (zI mo_days), .int (zI mo_over2), .int (zI mo_longer), .ref (aMo 34)])), ((aMo 3), .inl (ca 0, 11, .inl (zA mo_rules)))] (oiX11_resets Ro) (oX11_resets ca aMo mo_taped mo_rules mo_size mo_runs mo_found mo_counted mo_isParted mo_maybes mo_days mo_over2 mo_longer Ro) := by
  refine ctr_of (lv := [(0, .ref (aMo 0)), (1, .int (zI v1))]) (by decide +kernel) (Nat.le_of_ble_eq_true rfl) rfl (fun Γ hl0 C E hnm => ?_)
  have H27 : fX11_resets_27 = some Ro → Zd D Γ 0 0 [((aMo 0), .inr (11, [.ref (aMo 1), .int (zI mo_taped), .ref (aMo 3), .ref (aMo 4), .ref (aMo 5), .ref (aMo 6), .ref (aMo 7), .ref (aMo 8), .ref (aMo 9), .ref (aMo 10), .ref (aMo 11), .ref (aMo 12), .ref (aMo 13), .ref (aMo 14), .ref (aMo 15), .ref (aMo 16), .int (zI mo_size), .int (zI mo_runs), .ref (aMo 19), .ref (aMo 20), .ref (aMo 21), .int (zI mo_found), .int (zI mo_counted), .int (zI mo_isParted), .ref (aMo 25), .ref (aMo 26), .ref (aMo 27), .ref (aMo 28), .ref (aMo 29), .int (zI mo_maybes), .int (zI mo_days), .int (zI mo_over2), .int (zI mo_longer), .ref (aMo 34)])), ((aMo 3), .inl (ca 0, 11, .inl (zA mo_rules)))] 27 [] [] := by
    intro  hf
    unfold fX11_resets_27 at hf
    refine g_iconst (pc := 27) C dX11_resets_27 ?_
    refine g_goto (pc := 28) C (tgt := 32) dX11_resets_28 (by decide) ?_
    exact g_zret (pc := 32) C hf E (by decide) rfl (fun _ => 0) [0, 1] (by decide) rfl rfl (Nat.le_refl _) (Nat.le_refl _) dX11_resets_32
  have H31 : fX11_resets_31 = some Ro → Zd D Γ 0 0 [((aMo 0), .inr (11, [.ref (aMo 1), .int (zI mo_taped), .ref (aMo 3), .ref (aMo 4), .ref (aMo 5), .ref (aMo 6), .ref (aMo 7), .ref (aMo 8), .ref (aMo 9), .ref (aMo 10), .ref (aMo 11), .ref (aMo 12), .ref (aMo 13), .ref (aMo 14), .ref (aMo 15), .ref (aMo 16), .int (zI mo_size), .int (zI mo_runs), .ref (aMo 19), .ref (aMo 20), .ref (aMo 21), .int (zI mo_found), .int (zI mo_counted), .int (zI mo_isParted), .ref (aMo 25), .ref (aMo 26), .ref (aMo 27), .ref (aMo 28), .ref (aMo 29), .int (zI mo_maybes), .int (zI mo_days), .int (zI mo_over2), .int (zI mo_longer), .ref (aMo 34)])), ((aMo 3), .inl (ca 0, 11, .inl (zA mo_rules)))] 31 [] [] := by
    intro  hf
    unfold fX11_resets_31 at hf
    refine g_iconst (pc := 31) C dX11_resets_31 ?_
    exact g_zret (pc := 32) C hf E (by decide) rfl (fun _ => 0) [0, 1] (by decide) rfl rfl (Nat.le_refl _) (Nat.le_refl _) dX11_resets_32
  unfold fX11_resets at hf
  refine g_iload_n (pc := 0) C 1 dX11_resets_0 rfl rfl ?_
  refine g_aload_n (pc := 1) C 0 dX11_resets_1 rfl rfl ?_
  refine g_get (pc := 2) C zf_X11_13 0 rfl rfl dX11_resets_2 ?_
  refine g_iconst (pc := 5) C dX11_resets_5 ?_
  refine g_ialdK (pc := 6) C 1 1 rfl rfl (Nat.le_of_ble_eq_true rfl) (Nat.le_of_ble_eq_true rfl) dX11_resets_6 ?_
  refine g_icmp_ge (pc := 7) C (tgt := 27) dX11_resets_7 (by decide) hf (fun hf => ?_) (fun hf => ?_)
  · refine g_sub [0, 1] [] (by decide) rfl rfl rfl ?_
    exact H27  hf
  · refine g_iload_n (pc := 10) C 1 dX11_resets_10 rfl rfl ?_
    refine g_aload_n (pc := 11) C 0 dX11_resets_11 rfl rfl ?_
    refine g_get (pc := 12) C zf_X11_13 0 rfl rfl dX11_resets_12 ?_
    refine g_iconst (pc := 15) C dX11_resets_15 ?_
    refine g_ialdK (pc := 16) C 3 1 rfl rfl (Nat.le_of_ble_eq_true rfl) (Nat.le_of_ble_eq_true rfl) dX11_resets_16 ?_
    refine g_icmp_lt (pc := 17) C (tgt := 31) dX11_resets_17 (by decide) hf (fun hf => ?_) (fun hf => ?_)
    · refine g_sub [0, 1] [] (by decide) rfl rfl rfl ?_
      exact H31  hf
    · refine g_aload_n (pc := 20) C 0 dX11_resets_20 rfl rfl ?_
      refine g_get (pc := 21) C zf_X11_134 0 rfl rfl dX11_resets_21 ?_
      refine g_if_eq (pc := 24) C (tgt := 31) dX11_resets_24 (by decide) hf (fun hf => ?_) (fun hf => ?_)
      · refine g_sub [0, 1] [] (by decide) rfl rfl rfl ?_
        exact H31  hf
      · refine g_sub [0, 1] [] (by decide) rfl rfl rfl ?_
        exact H27  hf
def oX11_tells (ca : Nat → ClassId) (aMo : Nat → Nat) (mo_taped : Int) (mo_size : Int) (mo_runs : Int) (mo_counted : Int) (mo_isParted : Int) (mo_maybes : Int) (mo_days : Int) (mo_over2 : Int) (mo_longer : Int) (Ro : (Nat → Int) × (Nat → Int) × (Nat → Int) × Int) : (Nat → Nat) → va_W := fun _ => [((aMo 0), .inr (11, [.ref (aMo 1), .int (zI mo_taped), .ref (aMo 3), .ref (aMo 4), .ref (aMo 5), .ref (aMo 6), .ref (aMo 7), .ref (aMo 8), .ref (aMo 9), .ref (aMo 10), .ref (aMo 11), .ref (aMo 12), .ref (aMo 13), .ref (aMo 14), .ref (aMo 15), .ref (aMo 16), .int (zI mo_size), .int (zI mo_runs), .ref (aMo 19), .ref (aMo 20), .ref (aMo 21), .int (zI (Ro.2.2.2)), .int (zI mo_counted), .int (zI mo_isParted), .ref (aMo 25), .ref (aMo 26), .ref (aMo 27), .ref (aMo 28), .ref (aMo 29), .int (zI mo_maybes), .int (zI mo_days), .int (zI mo_over2), .int (zI mo_longer), .ref (aMo 34)])), ((aMo 19), .inl (ca 0, 400, .inl (zA (Ro.1)))), ((aMo 20), .inl (ca 0, 400, .inl (zA (Ro.2.1)))), ((aMo 21), .inl (ca 0, 400, .inl (zA (Ro.2.2.1))))]
def oiX11_tells (Ro : (Nat → Int) × (Nat → Int) × (Nat → Int) × Int) : Option Value := none
set_option maxRecDepth 100000 in
theorem kX11_tells (l : Launch) (D : va_G) (ca : Nat → ClassId) (aMo : Nat → Nat) (mo_taped : Int) (mo_size : Int) (mo_runs : Int) (mo_foundAt : Nat → Int) (mo_foundRule : Nat → Int) (mo_foundMany : Nat → Int) (mo_found : Int) (mo_counted : Int) (mo_isParted : Int) (mo_maybes : Int) (mo_days : Int) (mo_over2 : Int) (mo_longer : Int) (v1 : Int) (v2 : Int) (v3 : Int) (Ro : (Nat → Int) × (Nat → Int) × (Nat → Int) × Int)
    (hf : fX11_tells v1 v2 v3 mo_foundAt mo_foundRule mo_foundMany mo_found = some Ro) : Zc l D ca yX11_tells cX11_tells 5 none { frames := 0, cells := 0, slots := 0, locals := 0 } [.ref (aMo 0), .int (zI v1), .int (zI v2), .int (zI v3)] [((aMo 0), .inr (11, [.ref (aMo 1), .int (zI mo_taped), .ref (aMo 3), .ref (aMo 4), .ref (aMo 5), .ref (aMo 6), .ref (aMo 7), .ref (aMo 8), .ref (aMo 9), .ref (aMo 10), .ref (aMo 11), .ref (aMo 12), .ref (aMo 13), .ref (aMo 14), .ref (aMo 15), .ref (aMo 16), .int (zI mo_size), .int (zI mo_runs), .ref (aMo 19), .ref (aMo 20), .ref (aMo 21), .int (zI mo_found), .int (zI mo_counted), .int (zI mo_isParted), .ref (aMo 25), .ref (aMo 26), .ref (aMo 27), .ref (aMo 28), .ref (aMo 29), .int (zI mo_maybes), .int (zI mo_days), .int (zI mo_over2), .int (zI mo_longer), .ref (aMo 34)])), ((aMo 19), .inl (ca 0, 400, .inl (zA mo_foundAt))), ((aMo 20), .inl (ca 0, 400, .inl (zA mo_foundRule))), ((aMo 21), .inl (ca 0, 400, .inl (zA mo_foundMany)))] (oiX11_tells Ro) (oX11_tells ca aMo mo_taped mo_size mo_runs mo_counted mo_isParted mo_maybes mo_days mo_over2 mo_longer Ro) := by
  refine ctr_of (lv := [(0, .ref (aMo 0)), (1, .int (zI v1)), (2, .int (zI v2)), (3, .int (zI v3))]) (by decide +kernel) (Nat.le_of_ble_eq_true rfl) rfl (fun Γ hl0 C E hnm => ?_)
  have H112 : ∀ (v4 : Int) (mo_foundAt : Nat → Int) (mo_foundRule : Nat → Int) (mo_foundMany : Nat → Int) (mo_found : Int), fX11_tells_112 v1 v2 v3 v4 mo_foundAt mo_foundRule mo_foundMany mo_found = some Ro → Zd D Γ 0 0 [((aMo 0), .inr (11, [.ref (aMo 1), .int (zI mo_taped), .ref (aMo 3), .ref (aMo 4), .ref (aMo 5), .ref (aMo 6), .ref (aMo 7), .ref (aMo 8), .ref (aMo 9), .ref (aMo 10), .ref (aMo 11), .ref (aMo 12), .ref (aMo 13), .ref (aMo 14), .ref (aMo 15), .ref (aMo 16), .int (zI mo_size), .int (zI mo_runs), .ref (aMo 19), .ref (aMo 20), .ref (aMo 21), .int (zI mo_found), .int (zI mo_counted), .int (zI mo_isParted), .ref (aMo 25), .ref (aMo 26), .ref (aMo 27), .ref (aMo 28), .ref (aMo 29), .int (zI mo_maybes), .int (zI mo_days), .int (zI mo_over2), .int (zI mo_longer), .ref (aMo 34)])), ((aMo 19), .inl (ca 0, 400, .inl (zA mo_foundAt))), ((aMo 20), .inl (ca 0, 400, .inl (zA mo_foundRule))), ((aMo 21), .inl (ca 0, 400, .inl (zA mo_foundMany)))] 112 [(0, .ref (aMo 0)), (1, .int (zI v1)), (2, .int (zI v2)), (3, .int (zI v3)), (4, .int (zI v4))] [] := by
    intro v4 mo_foundAt mo_foundRule mo_foundMany mo_found hf
    unfold fX11_tells_112 at hf
    refine g_aload_n (pc := 112) C 0 dX11_tells_112 rfl rfl ?_
    refine g_get (pc := 113) C zf_X11_56 0 rfl rfl dX11_tells_113 ?_
    refine g_iload (pc := 116) C 4 dX11_tells_116 rfl ?_
    refine g_iload_n (pc := 118) C 1 dX11_tells_118 rfl rfl ?_
    refine g_iast (pc := 119) C (N := 400) (ws' := [((aMo 0), .inr (11, [.ref (aMo 1), .int (zI mo_taped), .ref (aMo 3), .ref (aMo 4), .ref (aMo 5), .ref (aMo 6), .ref (aMo 7), .ref (aMo 8), .ref (aMo 9), .ref (aMo 10), .ref (aMo 11), .ref (aMo 12), .ref (aMo 13), .ref (aMo 14), .ref (aMo 15), .ref (aMo 16), .int (zI mo_size), .int (zI mo_runs), .ref (aMo 19), .ref (aMo 20), .ref (aMo 21), .int (zI mo_found), .int (zI mo_counted), .int (zI mo_isParted), .ref (aMo 25), .ref (aMo 26), .ref (aMo 27), .ref (aMo 28), .ref (aMo 29), .int (zI mo_maybes), .int (zI mo_days), .int (zI mo_over2), .int (zI mo_longer), .ref (aMo 34)])), ((aMo 19), .inl (ca 0, 400, .inl (zA (zU mo_foundAt v4.toNat v1)))), ((aMo 20), .inl (ca 0, 400, .inl (zA mo_foundRule))), ((aMo 21), .inl (ca 0, 400, .inl (zA mo_foundMany)))]) 1 rfl rfl (Nat.le_of_ble_eq_true rfl) rfl dX11_tells_119 hf (fun hf => ?_)
    refine g_aload_n (pc := 120) C 0 dX11_tells_120 rfl rfl ?_
    refine g_get (pc := 121) C zf_X11_59 0 rfl rfl dX11_tells_121 ?_
    refine g_iload (pc := 124) C 4 dX11_tells_124 rfl ?_
    refine g_iload_n (pc := 126) C 2 dX11_tells_126 rfl rfl ?_
    refine g_iast (pc := 127) C (N := 400) (ws' := [((aMo 0), .inr (11, [.ref (aMo 1), .int (zI mo_taped), .ref (aMo 3), .ref (aMo 4), .ref (aMo 5), .ref (aMo 6), .ref (aMo 7), .ref (aMo 8), .ref (aMo 9), .ref (aMo 10), .ref (aMo 11), .ref (aMo 12), .ref (aMo 13), .ref (aMo 14), .ref (aMo 15), .ref (aMo 16), .int (zI mo_size), .int (zI mo_runs), .ref (aMo 19), .ref (aMo 20), .ref (aMo 21), .int (zI mo_found), .int (zI mo_counted), .int (zI mo_isParted), .ref (aMo 25), .ref (aMo 26), .ref (aMo 27), .ref (aMo 28), .ref (aMo 29), .int (zI mo_maybes), .int (zI mo_days), .int (zI mo_over2), .int (zI mo_longer), .ref (aMo 34)])), ((aMo 19), .inl (ca 0, 400, .inl (zA (zU mo_foundAt v4.toNat v1)))), ((aMo 20), .inl (ca 0, 400, .inl (zA (zU mo_foundRule v4.toNat v2)))), ((aMo 21), .inl (ca 0, 400, .inl (zA mo_foundMany)))]) 2 rfl rfl (Nat.le_of_ble_eq_true rfl) rfl dX11_tells_127 hf (fun hf => ?_)
    refine g_aload_n (pc := 128) C 0 dX11_tells_128 rfl rfl ?_
    refine g_get (pc := 129) C zf_X11_62 0 rfl rfl dX11_tells_129 ?_
    refine g_iload (pc := 132) C 4 dX11_tells_132 rfl ?_
    refine g_iload_n (pc := 134) C 3 dX11_tells_134 rfl rfl ?_
    refine g_iast (pc := 135) C (N := 400) (ws' := [((aMo 0), .inr (11, [.ref (aMo 1), .int (zI mo_taped), .ref (aMo 3), .ref (aMo 4), .ref (aMo 5), .ref (aMo 6), .ref (aMo 7), .ref (aMo 8), .ref (aMo 9), .ref (aMo 10), .ref (aMo 11), .ref (aMo 12), .ref (aMo 13), .ref (aMo 14), .ref (aMo 15), .ref (aMo 16), .int (zI mo_size), .int (zI mo_runs), .ref (aMo 19), .ref (aMo 20), .ref (aMo 21), .int (zI mo_found), .int (zI mo_counted), .int (zI mo_isParted), .ref (aMo 25), .ref (aMo 26), .ref (aMo 27), .ref (aMo 28), .ref (aMo 29), .int (zI mo_maybes), .int (zI mo_days), .int (zI mo_over2), .int (zI mo_longer), .ref (aMo 34)])), ((aMo 19), .inl (ca 0, 400, .inl (zA (zU mo_foundAt v4.toNat v1)))), ((aMo 20), .inl (ca 0, 400, .inl (zA (zU mo_foundRule v4.toNat v2)))), ((aMo 21), .inl (ca 0, 400, .inl (zA (zU mo_foundMany v4.toNat v3))))]) 3 rfl rfl (Nat.le_of_ble_eq_true rfl) rfl dX11_tells_135 hf (fun hf => ?_)
    refine g_aload_n (pc := 136) C 0 dX11_tells_136 rfl rfl ?_
    refine g_aload_n (pc := 137) C 0 dX11_tells_137 rfl rfl ?_
    refine g_get (pc := 138) C zf_X11_131 0 rfl rfl dX11_tells_138 ?_
    refine g_iconst (pc := 141) C dX11_tells_141 ?_
    refine g_iadd (pc := 142) C dX11_tells_142 ?_
    refine g_put (pc := 143) C zf_X11_131 tyX11 tyX11_ok nmX11 (v := .int (zI (mo_found + 1))) (ws' := [((aMo 0), .inr (11, [.ref (aMo 1), .int (zI mo_taped), .ref (aMo 3), .ref (aMo 4), .ref (aMo 5), .ref (aMo 6), .ref (aMo 7), .ref (aMo 8), .ref (aMo 9), .ref (aMo 10), .ref (aMo 11), .ref (aMo 12), .ref (aMo 13), .ref (aMo 14), .ref (aMo 15), .ref (aMo 16), .int (zI mo_size), .int (zI mo_runs), .ref (aMo 19), .ref (aMo 20), .ref (aMo 21), .int (zI (mo_found + 1)), .int (zI mo_counted), .int (zI mo_isParted), .ref (aMo 25), .ref (aMo 26), .ref (aMo 27), .ref (aMo 28), .ref (aMo 29), .int (zI mo_maybes), .int (zI mo_days), .int (zI mo_over2), .int (zI mo_longer), .ref (aMo 34)])), ((aMo 19), .inl (ca 0, 400, .inl (zA (zU mo_foundAt v4.toNat v1)))), ((aMo 20), .inl (ca 0, 400, .inl (zA (zU mo_foundRule v4.toNat v2)))), ((aMo 21), .inl (ca 0, 400, .inl (zA (zU mo_foundMany v4.toNat v3))))]) 0 rfl rfl rfl rfl rfl (Nat.le_of_ble_eq_true rfl) rfl rfl dX11_tells_143 ?_
    exact g_vret (pc := 146) C hf E rfl (fun _ => 0) [0, 1, 2, 3] (by decide) rfl rfl (Nat.le_refl _) (Nat.le_refl _) dX11_tells_146
  have H11 : ∀ (mo_found : Int) (n11 : Nat) (v4 : Int) (mo_foundAt : Nat → Int) (mo_foundRule : Nat → Int) (mo_foundMany : Nat → Int), zlp (fX11_tells_11 v1 v2 v3 mo_found) n11 (v4, mo_foundAt, mo_foundRule, mo_foundMany) = some Ro → Zd D Γ 0 0 [((aMo 0), .inr (11, [.ref (aMo 1), .int (zI mo_taped), .ref (aMo 3), .ref (aMo 4), .ref (aMo 5), .ref (aMo 6), .ref (aMo 7), .ref (aMo 8), .ref (aMo 9), .ref (aMo 10), .ref (aMo 11), .ref (aMo 12), .ref (aMo 13), .ref (aMo 14), .ref (aMo 15), .ref (aMo 16), .int (zI mo_size), .int (zI mo_runs), .ref (aMo 19), .ref (aMo 20), .ref (aMo 21), .int (zI mo_found), .int (zI mo_counted), .int (zI mo_isParted), .ref (aMo 25), .ref (aMo 26), .ref (aMo 27), .ref (aMo 28), .ref (aMo 29), .int (zI mo_maybes), .int (zI mo_days), .int (zI mo_over2), .int (zI mo_longer), .ref (aMo 34)])), ((aMo 19), .inl (ca 0, 400, .inl (zA mo_foundAt))), ((aMo 20), .inl (ca 0, 400, .inl (zA mo_foundRule))), ((aMo 21), .inl (ca 0, 400, .inl (zA mo_foundMany)))] 11 [(0, .ref (aMo 0)), (1, .int (zI v1)), (2, .int (zI v2)), (3, .int (zI v3)), (4, .int (zI v4))] [] := by
    intro mo_found
    intro n11
    induction n11 with
    | zero =>
      intro v4 mo_foundAt mo_foundRule mo_foundMany hf
      exact zno hf
    | succ n11 ih11 =>
      have H55 : ∀ (v4 : Int) (mo_foundAt : Nat → Int) (mo_foundRule : Nat → Int) (mo_foundMany : Nat → Int), fX11_tells_55 (zlp (fX11_tells_11 v1 v2 v3 mo_found) n11) v4 mo_foundAt mo_foundRule mo_foundMany = some Ro → Zd D Γ 0 0 [((aMo 0), .inr (11, [.ref (aMo 1), .int (zI mo_taped), .ref (aMo 3), .ref (aMo 4), .ref (aMo 5), .ref (aMo 6), .ref (aMo 7), .ref (aMo 8), .ref (aMo 9), .ref (aMo 10), .ref (aMo 11), .ref (aMo 12), .ref (aMo 13), .ref (aMo 14), .ref (aMo 15), .ref (aMo 16), .int (zI mo_size), .int (zI mo_runs), .ref (aMo 19), .ref (aMo 20), .ref (aMo 21), .int (zI mo_found), .int (zI mo_counted), .int (zI mo_isParted), .ref (aMo 25), .ref (aMo 26), .ref (aMo 27), .ref (aMo 28), .ref (aMo 29), .int (zI mo_maybes), .int (zI mo_days), .int (zI mo_over2), .int (zI mo_longer), .ref (aMo 34)])), ((aMo 19), .inl (ca 0, 400, .inl (zA mo_foundAt))), ((aMo 20), .inl (ca 0, 400, .inl (zA mo_foundRule))), ((aMo 21), .inl (ca 0, 400, .inl (zA mo_foundMany)))] 55 [(0, .ref (aMo 0)), (1, .int (zI v1)), (2, .int (zI v2)), (3, .int (zI v3)), (4, .int (zI v4))] [] := by
        intro v4 mo_foundAt mo_foundRule mo_foundMany hf
        unfold fX11_tells_55 at hf
        refine g_aload_n (pc := 55) C 0 dX11_tells_55 rfl rfl ?_
        refine g_get (pc := 56) C zf_X11_56 0 rfl rfl dX11_tells_56 ?_
        refine g_iload (pc := 59) C 4 dX11_tells_59 rfl ?_
        refine g_aload_n (pc := 61) C 0 dX11_tells_61 rfl rfl ?_
        refine g_get (pc := 62) C zf_X11_56 0 rfl rfl dX11_tells_62 ?_
        refine g_iload (pc := 65) C 4 dX11_tells_65 rfl ?_
        refine g_iconst (pc := 67) C dX11_tells_67 ?_
        refine g_isub (pc := 68) C dX11_tells_68 ?_
        refine g_iald (pc := 69) C (N := 400) 1 rfl rfl (Nat.le_of_ble_eq_true rfl) dX11_tells_69 hf (fun hf => ?_)
        refine g_iast (pc := 70) C (N := 400) (ws' := [((aMo 0), .inr (11, [.ref (aMo 1), .int (zI mo_taped), .ref (aMo 3), .ref (aMo 4), .ref (aMo 5), .ref (aMo 6), .ref (aMo 7), .ref (aMo 8), .ref (aMo 9), .ref (aMo 10), .ref (aMo 11), .ref (aMo 12), .ref (aMo 13), .ref (aMo 14), .ref (aMo 15), .ref (aMo 16), .int (zI mo_size), .int (zI mo_runs), .ref (aMo 19), .ref (aMo 20), .ref (aMo 21), .int (zI mo_found), .int (zI mo_counted), .int (zI mo_isParted), .ref (aMo 25), .ref (aMo 26), .ref (aMo 27), .ref (aMo 28), .ref (aMo 29), .int (zI mo_maybes), .int (zI mo_days), .int (zI mo_over2), .int (zI mo_longer), .ref (aMo 34)])), ((aMo 19), .inl (ca 0, 400, .inl (zA (zU mo_foundAt v4.toNat (mo_foundAt (v4 - 1).toNat))))), ((aMo 20), .inl (ca 0, 400, .inl (zA mo_foundRule))), ((aMo 21), .inl (ca 0, 400, .inl (zA mo_foundMany)))]) 1 rfl rfl (Nat.le_of_ble_eq_true rfl) rfl dX11_tells_70 hf (fun hf => ?_)
        refine g_aload_n (pc := 71) C 0 dX11_tells_71 rfl rfl ?_
        refine g_get (pc := 72) C zf_X11_59 0 rfl rfl dX11_tells_72 ?_
        refine g_iload (pc := 75) C 4 dX11_tells_75 rfl ?_
        refine g_aload_n (pc := 77) C 0 dX11_tells_77 rfl rfl ?_
        refine g_get (pc := 78) C zf_X11_59 0 rfl rfl dX11_tells_78 ?_
        refine g_iload (pc := 81) C 4 dX11_tells_81 rfl ?_
        refine g_iconst (pc := 83) C dX11_tells_83 ?_
        refine g_isub (pc := 84) C dX11_tells_84 ?_
        refine g_iald (pc := 85) C (N := 400) 2 rfl rfl (Nat.le_of_ble_eq_true rfl) dX11_tells_85 hf (fun hf => ?_)
        refine g_iast (pc := 86) C (N := 400) (ws' := [((aMo 0), .inr (11, [.ref (aMo 1), .int (zI mo_taped), .ref (aMo 3), .ref (aMo 4), .ref (aMo 5), .ref (aMo 6), .ref (aMo 7), .ref (aMo 8), .ref (aMo 9), .ref (aMo 10), .ref (aMo 11), .ref (aMo 12), .ref (aMo 13), .ref (aMo 14), .ref (aMo 15), .ref (aMo 16), .int (zI mo_size), .int (zI mo_runs), .ref (aMo 19), .ref (aMo 20), .ref (aMo 21), .int (zI mo_found), .int (zI mo_counted), .int (zI mo_isParted), .ref (aMo 25), .ref (aMo 26), .ref (aMo 27), .ref (aMo 28), .ref (aMo 29), .int (zI mo_maybes), .int (zI mo_days), .int (zI mo_over2), .int (zI mo_longer), .ref (aMo 34)])), ((aMo 19), .inl (ca 0, 400, .inl (zA (zU mo_foundAt v4.toNat (mo_foundAt (v4 - 1).toNat))))), ((aMo 20), .inl (ca 0, 400, .inl (zA (zU mo_foundRule v4.toNat (mo_foundRule (v4 - 1).toNat))))), ((aMo 21), .inl (ca 0, 400, .inl (zA mo_foundMany)))]) 2 rfl rfl (Nat.le_of_ble_eq_true rfl) rfl dX11_tells_86 hf (fun hf => ?_)
        refine g_aload_n (pc := 87) C 0 dX11_tells_87 rfl rfl ?_
        refine g_get (pc := 88) C zf_X11_62 0 rfl rfl dX11_tells_88 ?_
        refine g_iload (pc := 91) C 4 dX11_tells_91 rfl ?_
        refine g_aload_n (pc := 93) C 0 dX11_tells_93 rfl rfl ?_
        refine g_get (pc := 94) C zf_X11_62 0 rfl rfl dX11_tells_94 ?_
        refine g_iload (pc := 97) C 4 dX11_tells_97 rfl ?_
        refine g_iconst (pc := 99) C dX11_tells_99 ?_
        refine g_isub (pc := 100) C dX11_tells_100 ?_
        refine g_iald (pc := 101) C (N := 400) 3 rfl rfl (Nat.le_of_ble_eq_true rfl) dX11_tells_101 hf (fun hf => ?_)
        refine g_iast (pc := 102) C (N := 400) (ws' := [((aMo 0), .inr (11, [.ref (aMo 1), .int (zI mo_taped), .ref (aMo 3), .ref (aMo 4), .ref (aMo 5), .ref (aMo 6), .ref (aMo 7), .ref (aMo 8), .ref (aMo 9), .ref (aMo 10), .ref (aMo 11), .ref (aMo 12), .ref (aMo 13), .ref (aMo 14), .ref (aMo 15), .ref (aMo 16), .int (zI mo_size), .int (zI mo_runs), .ref (aMo 19), .ref (aMo 20), .ref (aMo 21), .int (zI mo_found), .int (zI mo_counted), .int (zI mo_isParted), .ref (aMo 25), .ref (aMo 26), .ref (aMo 27), .ref (aMo 28), .ref (aMo 29), .int (zI mo_maybes), .int (zI mo_days), .int (zI mo_over2), .int (zI mo_longer), .ref (aMo 34)])), ((aMo 19), .inl (ca 0, 400, .inl (zA (zU mo_foundAt v4.toNat (mo_foundAt (v4 - 1).toNat))))), ((aMo 20), .inl (ca 0, 400, .inl (zA (zU mo_foundRule v4.toNat (mo_foundRule (v4 - 1).toNat))))), ((aMo 21), .inl (ca 0, 400, .inl (zA (zU mo_foundMany v4.toNat (mo_foundMany (v4 - 1).toNat)))))]) 3 rfl rfl (Nat.le_of_ble_eq_true rfl) rfl dX11_tells_102 hf (fun hf => ?_)
        refine g_iload (pc := 103) C 4 dX11_tells_103 rfl ?_
        refine g_iconst (pc := 105) C dX11_tells_105 ?_
        refine g_isub (pc := 106) C dX11_tells_106 ?_
        refine g_istore (pc := 107) C (lv' := [(4, .int (zI (v4 - 1))), (0, .ref (aMo 0)), (1, .int (zI v1)), (2, .int (zI v2)), (3, .int (zI v3))]) dX11_tells_107 (Nat.le_of_ble_eq_true rfl) rfl ?_
        refine g_goto (pc := 109) C (tgt := 11) dX11_tells_109 (by decide) ?_
        refine g_sub [0, 1, 2, 3] [1, 2, 3, 4, 0] (by decide) rfl rfl rfl ?_
        exact ih11 _ _ _ _ hf
      intro v4 mo_foundAt mo_foundRule mo_foundMany hf
      rw [zlp_s] at hf
      unfold fX11_tells_11 at hf
      dsimp only at hf
      refine g_iload (pc := 11) C 4 dX11_tells_11 rfl ?_
      refine g_if_le (pc := 13) C (tgt := 112) dX11_tells_13 (by decide) hf (fun hf => ?_) (fun hf => ?_)
      · exact H112 _ _ _ _ _ hf
      · refine g_aload_n (pc := 16) C 0 dX11_tells_16 rfl rfl ?_
        refine g_get (pc := 17) C zf_X11_56 0 rfl rfl dX11_tells_17 ?_
        refine g_iload (pc := 20) C 4 dX11_tells_20 rfl ?_
        refine g_iconst (pc := 22) C dX11_tells_22 ?_
        refine g_isub (pc := 23) C dX11_tells_23 ?_
        refine g_iald (pc := 24) C (N := 400) 1 rfl rfl (Nat.le_of_ble_eq_true rfl) dX11_tells_24 hf (fun hf => ?_)
        refine g_iload_n (pc := 25) C 1 dX11_tells_25 rfl rfl ?_
        refine g_icmp_gt (pc := 26) C (tgt := 55) dX11_tells_26 (by decide) hf (fun hf => ?_) (fun hf => ?_)
        · exact H55 _ _ _ _ hf
        · refine g_aload_n (pc := 29) C 0 dX11_tells_29 rfl rfl ?_
          refine g_get (pc := 30) C zf_X11_56 0 rfl rfl dX11_tells_30 ?_
          refine g_iload (pc := 33) C 4 dX11_tells_33 rfl ?_
          refine g_iconst (pc := 35) C dX11_tells_35 ?_
          refine g_isub (pc := 36) C dX11_tells_36 ?_
          refine g_iald (pc := 37) C (N := 400) 1 rfl rfl (Nat.le_of_ble_eq_true rfl) dX11_tells_37 hf (fun hf => ?_)
          refine g_iload_n (pc := 38) C 1 dX11_tells_38 rfl rfl ?_
          refine g_icmp_ne (pc := 39) C (tgt := 112) dX11_tells_39 (by decide) hf (fun hf => ?_) (fun hf => ?_)
          · exact H112 _ _ _ _ _ hf
          · refine g_aload_n (pc := 42) C 0 dX11_tells_42 rfl rfl ?_
            refine g_get (pc := 43) C zf_X11_59 0 rfl rfl dX11_tells_43 ?_
            refine g_iload (pc := 46) C 4 dX11_tells_46 rfl ?_
            refine g_iconst (pc := 48) C dX11_tells_48 ?_
            refine g_isub (pc := 49) C dX11_tells_49 ?_
            refine g_iald (pc := 50) C (N := 400) 2 rfl rfl (Nat.le_of_ble_eq_true rfl) dX11_tells_50 hf (fun hf => ?_)
            refine g_iload_n (pc := 51) C 2 dX11_tells_51 rfl rfl ?_
            refine g_icmp_le (pc := 52) C (tgt := 112) dX11_tells_52 (by decide) hf (fun hf => ?_) (fun hf => ?_)
            · exact H112 _ _ _ _ _ hf
            · exact H55 _ _ _ _ hf
  unfold fX11_tells at hf
  refine g_iload_n (pc := 0) C 3 dX11_tells_0 rfl rfl ?_
  refine g_if_ne (pc := 1) C (tgt := 5) dX11_tells_1 (by decide) hf (fun hf => ?_) (fun hf => ?_)
  · refine g_aload_n (pc := 5) C 0 dX11_tells_5 rfl rfl ?_
    refine g_get (pc := 6) C zf_X11_131 0 rfl rfl dX11_tells_6 ?_
    refine g_istore (pc := 9) C (lv' := [(4, .int (zI mo_found)), (0, .ref (aMo 0)), (1, .int (zI v1)), (2, .int (zI v2)), (3, .int (zI v3))]) dX11_tells_9 (Nat.le_of_ble_eq_true rfl) rfl ?_
    refine g_sub [0, 1, 2, 3] [1, 2, 3, 4, 0] (by decide) rfl rfl rfl ?_
    exact H11 _ _ _ _ _ _ hf
  · exact g_vret (pc := 4) C hf E rfl (fun _ => 0) [0, 1, 2, 3] (by decide) rfl rfl (Nat.le_refl _) (Nat.le_refl _) dX11_tells_4
def oX11_ruleOne (ca : Nat → ClassId) (aMo : Nat → Nat) (mo_taped : Int) (mo_rules : Nat → Int) (mo_laid : Nat → Int) (mo_runFrom : Nat → Int) (mo_runTo : Nat → Int) (mo_size : Int) (mo_runs : Int) (mo_maybes : Int) (mo_days : Int) (mo_over2 : Int) (mo_longer : Int) (Ro : (Nat → Int) × (Nat → Int) × (Nat → Int) × Int × Int × Int) : (Nat → Nat) → va_W := fun _ => [((aMo 0), .inr (11, [.ref (aMo 1), .int (zI mo_taped), .ref (aMo 3), .ref (aMo 4), .ref (aMo 5), .ref (aMo 6), .ref (aMo 7), .ref (aMo 8), .ref (aMo 9), .ref (aMo 10), .ref (aMo 11), .ref (aMo 12), .ref (aMo 13), .ref (aMo 14), .ref (aMo 15), .ref (aMo 16), .int (zI mo_size), .int (zI mo_runs), .ref (aMo 19), .ref (aMo 20), .ref (aMo 21), .int (zI (Ro.2.2.2.1)), .int (zI (Ro.2.2.2.2.1)), .int (zI (Ro.2.2.2.2.2)), .ref (aMo 25), .ref (aMo 26), .ref (aMo 27), .ref (aMo 28), .ref (aMo 29), .int (zI mo_maybes), .int (zI mo_days), .int (zI mo_over2), .int (zI mo_longer), .ref (aMo 34)])), ((aMo 3), .inl (ca 0, 11, .inl (zA mo_rules))), ((aMo 13), .inl (ca 0, 20160, .inl (zA mo_laid))), ((aMo 15), .inl (ca 0, 60, .inl (zA mo_runFrom))), ((aMo 16), .inl (ca 0, 60, .inl (zA mo_runTo))), ((aMo 19), .inl (ca 0, 400, .inl (zA (Ro.1)))), ((aMo 20), .inl (ca 0, 400, .inl (zA (Ro.2.1)))), ((aMo 21), .inl (ca 0, 400, .inl (zA (Ro.2.2.1))))]
def oiX11_ruleOne (Ro : (Nat → Int) × (Nat → Int) × (Nat → Int) × Int × Int × Int) : Option Value := none
set_option maxRecDepth 100000 in
theorem kX11_ruleOne (l : Launch) (D : va_G) (ca : Nat → ClassId) (aMo : Nat → Nat) (mo_taped : Int) (mo_rules : Nat → Int) (mo_laid : Nat → Int) (mo_runFrom : Nat → Int) (mo_runTo : Nat → Int) (mo_size : Int) (mo_runs : Int) (mo_foundAt : Nat → Int) (mo_foundRule : Nat → Int) (mo_foundMany : Nat → Int) (mo_found : Int) (mo_counted : Int) (mo_isParted : Int) (mo_maybes : Int) (mo_days : Int) (mo_over2 : Int) (mo_longer : Int)  (Ro : (Nat → Int) × (Nat → Int) × (Nat → Int) × Int × Int × Int)
    (hf : fX11_ruleOne mo_rules mo_laid mo_runFrom mo_runTo mo_size mo_runs mo_foundAt mo_foundRule mo_foundMany mo_found mo_counted mo_isParted = some Ro) : Zc l D ca yX11_ruleOne cX11_ruleOne 6 none { frames := 1, cells := 0, slots := 0, locals := 24 } [.ref (aMo 0)] [((aMo 0), .inr (11, [.ref (aMo 1), .int (zI mo_taped), .ref (aMo 3), .ref (aMo 4), .ref (aMo 5), .ref (aMo 6), .ref (aMo 7), .ref (aMo 8), .ref (aMo 9), .ref (aMo 10), .ref (aMo 11), .ref (aMo 12), .ref (aMo 13), .ref (aMo 14), .ref (aMo 15), .ref (aMo 16), .int (zI mo_size), .int (zI mo_runs), .ref (aMo 19), .ref (aMo 20), .ref (aMo 21), .int (zI mo_found), .int (zI mo_counted), .int (zI mo_isParted), .ref (aMo 25), .ref (aMo 26), .ref (aMo 27), .ref (aMo 28), .ref (aMo 29), .int (zI mo_maybes), .int (zI mo_days), .int (zI mo_over2), .int (zI mo_longer), .ref (aMo 34)])), ((aMo 3), .inl (ca 0, 11, .inl (zA mo_rules))), ((aMo 13), .inl (ca 0, 20160, .inl (zA mo_laid))), ((aMo 15), .inl (ca 0, 60, .inl (zA mo_runFrom))), ((aMo 16), .inl (ca 0, 60, .inl (zA mo_runTo))), ((aMo 19), .inl (ca 0, 400, .inl (zA mo_foundAt))), ((aMo 20), .inl (ca 0, 400, .inl (zA mo_foundRule))), ((aMo 21), .inl (ca 0, 400, .inl (zA mo_foundMany)))] (oiX11_ruleOne Ro) (oX11_ruleOne ca aMo mo_taped mo_rules mo_laid mo_runFrom mo_runTo mo_size mo_runs mo_maybes mo_days mo_over2 mo_longer Ro) := by
  refine ctr_of (lv := [(0, .ref (aMo 0))]) (by decide +kernel) (Nat.le_of_ble_eq_true rfl) rfl (fun Γ hl0 C E hnm => ?_)
  have H19 : ∀  (n19 : Nat) (v1 : Int) (v2 : Int) (v3 : Int) (v4 : Int) (mo_foundAt : Nat → Int) (mo_foundRule : Nat → Int) (mo_foundMany : Nat → Int) (mo_found : Int) (mo_counted : Int) (mo_isParted : Int), zlp (fX11_ruleOne_19 mo_rules mo_laid mo_runFrom mo_runTo mo_size mo_runs) n19 (v1, v2, v3, v4, mo_foundAt, mo_foundRule, mo_foundMany, mo_found, mo_counted, mo_isParted) = some Ro → Zd D Γ 0 0 [((aMo 0), .inr (11, [.ref (aMo 1), .int (zI mo_taped), .ref (aMo 3), .ref (aMo 4), .ref (aMo 5), .ref (aMo 6), .ref (aMo 7), .ref (aMo 8), .ref (aMo 9), .ref (aMo 10), .ref (aMo 11), .ref (aMo 12), .ref (aMo 13), .ref (aMo 14), .ref (aMo 15), .ref (aMo 16), .int (zI mo_size), .int (zI mo_runs), .ref (aMo 19), .ref (aMo 20), .ref (aMo 21), .int (zI mo_found), .int (zI mo_counted), .int (zI mo_isParted), .ref (aMo 25), .ref (aMo 26), .ref (aMo 27), .ref (aMo 28), .ref (aMo 29), .int (zI mo_maybes), .int (zI mo_days), .int (zI mo_over2), .int (zI mo_longer), .ref (aMo 34)])), ((aMo 3), .inl (ca 0, 11, .inl (zA mo_rules))), ((aMo 13), .inl (ca 0, 20160, .inl (zA mo_laid))), ((aMo 15), .inl (ca 0, 60, .inl (zA mo_runFrom))), ((aMo 16), .inl (ca 0, 60, .inl (zA mo_runTo))), ((aMo 19), .inl (ca 0, 400, .inl (zA mo_foundAt))), ((aMo 20), .inl (ca 0, 400, .inl (zA mo_foundRule))), ((aMo 21), .inl (ca 0, 400, .inl (zA mo_foundMany)))] 19 [(0, .ref (aMo 0)), (1, .int (zI v1)), (2, .int (zI v2)), (3, .int (zI v3)), (4, .int (zI v4))] [] := by
    intro n19
    induction n19 with
    | zero =>
      intro v1 v2 v3 v4 mo_foundAt mo_foundRule mo_foundMany mo_found mo_counted mo_isParted hf
      exact zno hf
    | succ n19 ih19 =>
      have H161 : ∀ (v1 : Int) (v2 : Int) (v3 : Int) (v4 : Int) (mo_foundAt : Nat → Int) (mo_foundRule : Nat → Int) (mo_foundMany : Nat → Int) (mo_found : Int) (mo_counted : Int) (mo_isParted : Int), fX11_ruleOne_161 (zlp (fX11_ruleOne_19 mo_rules mo_laid mo_runFrom mo_runTo mo_size mo_runs) n19) v1 v2 v3 v4 mo_foundAt mo_foundRule mo_foundMany mo_found mo_counted mo_isParted = some Ro → Zd D Γ 0 0 [((aMo 0), .inr (11, [.ref (aMo 1), .int (zI mo_taped), .ref (aMo 3), .ref (aMo 4), .ref (aMo 5), .ref (aMo 6), .ref (aMo 7), .ref (aMo 8), .ref (aMo 9), .ref (aMo 10), .ref (aMo 11), .ref (aMo 12), .ref (aMo 13), .ref (aMo 14), .ref (aMo 15), .ref (aMo 16), .int (zI mo_size), .int (zI mo_runs), .ref (aMo 19), .ref (aMo 20), .ref (aMo 21), .int (zI mo_found), .int (zI mo_counted), .int (zI mo_isParted), .ref (aMo 25), .ref (aMo 26), .ref (aMo 27), .ref (aMo 28), .ref (aMo 29), .int (zI mo_maybes), .int (zI mo_days), .int (zI mo_over2), .int (zI mo_longer), .ref (aMo 34)])), ((aMo 3), .inl (ca 0, 11, .inl (zA mo_rules))), ((aMo 13), .inl (ca 0, 20160, .inl (zA mo_laid))), ((aMo 15), .inl (ca 0, 60, .inl (zA mo_runFrom))), ((aMo 16), .inl (ca 0, 60, .inl (zA mo_runTo))), ((aMo 19), .inl (ca 0, 400, .inl (zA mo_foundAt))), ((aMo 20), .inl (ca 0, 400, .inl (zA mo_foundRule))), ((aMo 21), .inl (ca 0, 400, .inl (zA mo_foundMany)))] 161 [(0, .ref (aMo 0)), (1, .int (zI v1)), (2, .int (zI v2)), (3, .int (zI v3)), (4, .int (zI v4))] [] := by
        intro v1 v2 v3 v4 mo_foundAt mo_foundRule mo_foundMany mo_found mo_counted mo_isParted hf
        unfold fX11_ruleOne_161 at hf
        refine g_iinc (pc := 161) C 4 (lv' := [(4, .int (zI (v4 + 1))), (0, .ref (aMo 0)), (1, .int (zI v1)), (2, .int (zI v2)), (3, .int (zI v3))]) dX11_ruleOne_161 rfl (Nat.le_of_ble_eq_true rfl) rfl ?_
        refine g_goto (pc := 164) C (tgt := 19) dX11_ruleOne_164 (by decide) ?_
        refine g_sub [0, 1, 2, 3, 4, 5, 6, 7] [1, 2, 3, 4, 0] (by decide) rfl rfl rfl ?_
        exact ih19 _ _ _ _ _ _ _ _ _ _ hf
      have H157 : ∀ (v1 : Int) (v2 : Int) (v3 : Int) (v4 : Int) (mo_foundAt : Nat → Int) (mo_foundRule : Nat → Int) (mo_foundMany : Nat → Int) (mo_found : Int) (mo_counted : Int) (mo_isParted : Int), fX11_ruleOne_157 (zlp (fX11_ruleOne_19 mo_rules mo_laid mo_runFrom mo_runTo mo_size mo_runs) n19) v1 v2 v3 v4 mo_foundAt mo_foundRule mo_foundMany mo_found mo_counted mo_isParted = some Ro → Zd D Γ 0 0 [((aMo 0), .inr (11, [.ref (aMo 1), .int (zI mo_taped), .ref (aMo 3), .ref (aMo 4), .ref (aMo 5), .ref (aMo 6), .ref (aMo 7), .ref (aMo 8), .ref (aMo 9), .ref (aMo 10), .ref (aMo 11), .ref (aMo 12), .ref (aMo 13), .ref (aMo 14), .ref (aMo 15), .ref (aMo 16), .int (zI mo_size), .int (zI mo_runs), .ref (aMo 19), .ref (aMo 20), .ref (aMo 21), .int (zI mo_found), .int (zI mo_counted), .int (zI mo_isParted), .ref (aMo 25), .ref (aMo 26), .ref (aMo 27), .ref (aMo 28), .ref (aMo 29), .int (zI mo_maybes), .int (zI mo_days), .int (zI mo_over2), .int (zI mo_longer), .ref (aMo 34)])), ((aMo 3), .inl (ca 0, 11, .inl (zA mo_rules))), ((aMo 13), .inl (ca 0, 20160, .inl (zA mo_laid))), ((aMo 15), .inl (ca 0, 60, .inl (zA mo_runFrom))), ((aMo 16), .inl (ca 0, 60, .inl (zA mo_runTo))), ((aMo 19), .inl (ca 0, 400, .inl (zA mo_foundAt))), ((aMo 20), .inl (ca 0, 400, .inl (zA mo_foundRule))), ((aMo 21), .inl (ca 0, 400, .inl (zA mo_foundMany)))] 157 [(0, .ref (aMo 0)), (1, .int (zI v1)), (2, .int (zI v2)), (3, .int (zI v3)), (4, .int (zI v4))] [] := by
        intro v1 v2 v3 v4 mo_foundAt mo_foundRule mo_foundMany mo_found mo_counted mo_isParted hf
        unfold fX11_ruleOne_157 at hf
        refine g_iload_n (pc := 157) C 3 dX11_ruleOne_157 rfl rfl ?_
        refine g_iconst (pc := 158) C dX11_ruleOne_158 ?_
        refine g_iadd (pc := 159) C dX11_ruleOne_159 ?_
        refine g_istore_n (pc := 160) C (lv' := [(3, .int (zI (v3 + 1))), (0, .ref (aMo 0)), (1, .int (zI v1)), (2, .int (zI v2)), (4, .int (zI v4))]) dX11_ruleOne_160 rfl (Nat.le_of_ble_eq_true rfl) rfl ?_
        refine g_sub [0, 1, 2, 3, 4, 5, 6, 7] [1, 2, 3, 0, 4] (by decide) rfl rfl rfl ?_
        exact H161 _ _ _ _ _ _ _ _ _ _ hf
      have H77 : ∀ (v1 : Int) (v2 : Int) (v3 : Int) (v4 : Int) (mo_foundAt : Nat → Int) (mo_foundRule : Nat → Int) (mo_foundMany : Nat → Int) (mo_found : Int) (mo_counted : Int) (mo_isParted : Int), fX11_ruleOne_77 (zlp (fX11_ruleOne_19 mo_rules mo_laid mo_runFrom mo_runTo mo_size mo_runs) n19) v1 v2 v3 v4 mo_rules mo_runFrom mo_runTo mo_runs mo_foundAt mo_foundRule mo_foundMany mo_found mo_counted mo_isParted = some Ro → Zd D Γ 0 0 [((aMo 0), .inr (11, [.ref (aMo 1), .int (zI mo_taped), .ref (aMo 3), .ref (aMo 4), .ref (aMo 5), .ref (aMo 6), .ref (aMo 7), .ref (aMo 8), .ref (aMo 9), .ref (aMo 10), .ref (aMo 11), .ref (aMo 12), .ref (aMo 13), .ref (aMo 14), .ref (aMo 15), .ref (aMo 16), .int (zI mo_size), .int (zI mo_runs), .ref (aMo 19), .ref (aMo 20), .ref (aMo 21), .int (zI mo_found), .int (zI mo_counted), .int (zI mo_isParted), .ref (aMo 25), .ref (aMo 26), .ref (aMo 27), .ref (aMo 28), .ref (aMo 29), .int (zI mo_maybes), .int (zI mo_days), .int (zI mo_over2), .int (zI mo_longer), .ref (aMo 34)])), ((aMo 3), .inl (ca 0, 11, .inl (zA mo_rules))), ((aMo 13), .inl (ca 0, 20160, .inl (zA mo_laid))), ((aMo 15), .inl (ca 0, 60, .inl (zA mo_runFrom))), ((aMo 16), .inl (ca 0, 60, .inl (zA mo_runTo))), ((aMo 19), .inl (ca 0, 400, .inl (zA mo_foundAt))), ((aMo 20), .inl (ca 0, 400, .inl (zA mo_foundRule))), ((aMo 21), .inl (ca 0, 400, .inl (zA mo_foundMany)))] 77 [(0, .ref (aMo 0)), (1, .int (zI v1)), (2, .int (zI v2)), (3, .int (zI v3)), (4, .int (zI v4))] [] := by
        intro v1 v2 v3 v4 mo_foundAt mo_foundRule mo_foundMany mo_found mo_counted mo_isParted hf
        unfold fX11_ruleOne_77 at hf
        refine g_iload_n (pc := 77) C 3 dX11_ruleOne_77 rfl rfl ?_
        refine g_aload_n (pc := 78) C 0 dX11_ruleOne_78 rfl rfl ?_
        refine g_get (pc := 79) C zf_X11_128 0 rfl rfl dX11_ruleOne_79 ?_
        refine g_icmp_eq (pc := 82) C (tgt := 161) dX11_ruleOne_82 (by decide) hf (fun hf => ?_) (fun hf => ?_)
        · exact H161 _ _ _ _ _ _ _ _ _ _ hf
        · refine g_aload_n (pc := 85) C 0 dX11_ruleOne_85 rfl rfl ?_
          refine g_get (pc := 86) C zf_X11_53 0 rfl rfl dX11_ruleOne_86 ?_
          refine g_iload_n (pc := 89) C 3 dX11_ruleOne_89 rfl rfl ?_
          refine g_iald (pc := 90) C (N := 60) 4 rfl rfl (Nat.le_of_ble_eq_true rfl) dX11_ruleOne_90 hf (fun hf => ?_)
          refine g_iload (pc := 91) C 4 dX11_ruleOne_91 rfl ?_
          refine g_iconst (pc := 93) C dX11_ruleOne_93 ?_
          refine g_iadd (pc := 94) C dX11_ruleOne_94 ?_
          refine g_icmp_eq (pc := 95) C (tgt := 101) dX11_ruleOne_95 (by decide) hf (fun hf => ?_) (fun hf => ?_)
          · refine g_aload_n (pc := 101) C 0 dX11_ruleOne_101 rfl rfl ?_
            refine g_iload_n (pc := 102) C 3 dX11_ruleOne_102 rfl rfl ?_
            obtain ⟨r_103, hc_103, hf⟩ := Option.bind_eq_some_iff.mp hf
            refine g_callV (pc := 103) C hl0 (wr := [((aMo 3), .inl (ca 0, 11, .inl (zA mo_rules))), ((aMo 13), .inl (ca 0, 20160, .inl (zA mo_laid))), ((aMo 19), .inl (ca 0, 400, .inl (zA mo_foundAt))), ((aMo 20), .inl (ca 0, 400, .inl (zA mo_foundRule))), ((aMo 21), .inl (ca 0, 400, .inl (zA mo_foundMany)))]) (k' := 0) (n' := 0) (ws' := fun _ => [((aMo 3), .inl (ca 0, 11, .inl (zA mo_rules))), ((aMo 13), .inl (ca 0, 20160, .inl (zA mo_laid))), ((aMo 19), .inl (ca 0, 400, .inl (zA mo_foundAt))), ((aMo 20), .inl (ca 0, 400, .inl (zA mo_foundRule))), ((aMo 21), .inl (ca 0, 400, .inl (zA mo_foundMany))), ((aMo 0), .inr (11, [.ref (aMo 1), .int (zI mo_taped), .ref (aMo 3), .ref (aMo 4), .ref (aMo 5), .ref (aMo 6), .ref (aMo 7), .ref (aMo 8), .ref (aMo 9), .ref (aMo 10), .ref (aMo 11), .ref (aMo 12), .ref (aMo 13), .ref (aMo 14), .ref (aMo 15), .ref (aMo 16), .int (zI mo_size), .int (zI mo_runs), .ref (aMo 19), .ref (aMo 20), .ref (aMo 21), .int (zI mo_found), .int (zI mo_counted), .int (zI mo_isParted), .ref (aMo 25), .ref (aMo 26), .ref (aMo 27), .ref (aMo 28), .ref (aMo 29), .int (zI mo_maybes), .int (zI mo_days), .int (zI mo_over2), .int (zI mo_longer), .ref (aMo 34)])), ((aMo 15), .inl (ca 0, 60, .inl (zA mo_runFrom))), ((aMo 16), .inl (ca 0, 60, .inl (zA mo_runTo)))]) (st' := [.int (zI r_103)]) (kX11_runLength l D ca aMo mo_taped mo_runFrom mo_runTo mo_size mo_runs mo_found mo_counted mo_isParted mo_maybes mo_days mo_over2 mo_longer v3 r_103 hc_103) wml_RX11_141 wim_X11_runLength wse_X11_runLength win_RX11 wco_X11_runLength (nA := 1) rfl (by decide +kernel)  ⟨(Nat.le_of_ble_eq_true rfl), (Nat.le_of_ble_eq_true rfl)⟩ (Nat.le_refl _) (Nat.le_refl _) rfl (Nat.le_of_ble_eq_true rfl) dX11_ruleOne_103 0 11 rfl rfl rfl [0, 3, 4] [1, 2, 5, 6, 7] rfl rfl rfl (by decide) (by decide) (by decide) rfl rfl (fun _ => rfl) rfl (fun _ => ?_)
            refine g_istore (pc := 106) C (lv' := [(5, .int (zI r_103)), (0, .ref (aMo 0)), (1, .int (zI v1)), (2, .int (zI v2)), (3, .int (zI v3)), (4, .int (zI v4))]) dX11_ruleOne_106 (Nat.le_of_ble_eq_true rfl) rfl ?_
            refine g_aload_n (pc := 108) C 1 dX11_ruleOne_108 rfl rfl ?_
            refine g_iload (pc := 109) C 0 dX11_ruleOne_109 rfl ?_
            obtain ⟨r_111, hc_111, hf⟩ := Option.bind_eq_some_iff.mp hf
            refine g_callV (pc := 111) C hl0 (wr := [((aMo 13), .inl (ca 0, 20160, .inl (zA mo_laid))), ((aMo 19), .inl (ca 0, 400, .inl (zA mo_foundAt))), ((aMo 20), .inl (ca 0, 400, .inl (zA mo_foundRule))), ((aMo 21), .inl (ca 0, 400, .inl (zA mo_foundMany))), ((aMo 15), .inl (ca 0, 60, .inl (zA mo_runFrom))), ((aMo 16), .inl (ca 0, 60, .inl (zA mo_runTo)))]) (k' := 0) (n' := 0) (ws' := fun _ => [((aMo 13), .inl (ca 0, 20160, .inl (zA mo_laid))), ((aMo 19), .inl (ca 0, 400, .inl (zA mo_foundAt))), ((aMo 20), .inl (ca 0, 400, .inl (zA mo_foundRule))), ((aMo 21), .inl (ca 0, 400, .inl (zA mo_foundMany))), ((aMo 15), .inl (ca 0, 60, .inl (zA mo_runFrom))), ((aMo 16), .inl (ca 0, 60, .inl (zA mo_runTo))), ((aMo 0), .inr (11, [.ref (aMo 1), .int (zI mo_taped), .ref (aMo 3), .ref (aMo 4), .ref (aMo 5), .ref (aMo 6), .ref (aMo 7), .ref (aMo 8), .ref (aMo 9), .ref (aMo 10), .ref (aMo 11), .ref (aMo 12), .ref (aMo 13), .ref (aMo 14), .ref (aMo 15), .ref (aMo 16), .int (zI mo_size), .int (zI mo_runs), .ref (aMo 19), .ref (aMo 20), .ref (aMo 21), .int (zI mo_found), .int (zI mo_counted), .int (zI mo_isParted), .ref (aMo 25), .ref (aMo 26), .ref (aMo 27), .ref (aMo 28), .ref (aMo 29), .int (zI mo_maybes), .int (zI mo_days), .int (zI mo_over2), .int (zI mo_longer), .ref (aMo 34)])), ((aMo 3), .inl (ca 0, 11, .inl (zA mo_rules)))]) (st' := [.int (zI r_111)]) (kX11_resets l D ca aMo mo_taped mo_rules mo_size mo_runs mo_found mo_counted mo_isParted mo_maybes mo_days mo_over2 mo_longer r_103 r_111 hc_111) wml_RX11_144 wim_X11_resets wse_X11_resets win_RX11 wco_X11_resets (nA := 1) rfl (by decide +kernel)  ⟨(Nat.le_of_ble_eq_true rfl), (Nat.le_of_ble_eq_true rfl)⟩ (Nat.le_refl _) (Nat.le_refl _) rfl (Nat.le_of_ble_eq_true rfl) dX11_ruleOne_111 5 11 rfl rfl rfl [5, 0] [1, 2, 3, 4, 6, 7] rfl rfl rfl (by decide) (by decide) (by decide) rfl rfl (fun _ => rfl) rfl (fun _ => ?_)
            refine g_if_eq (pc := 114) C (tgt := 141) dX11_ruleOne_114 (by decide) hf (fun hf => ?_) (fun hf => ?_)
            · refine g_iload (pc := 141) C 0 dX11_ruleOne_141 rfl ?_
              refine g_aload_n (pc := 143) C 1 dX11_ruleOne_143 rfl rfl ?_
              refine g_get (pc := 144) C zf_X11_13 6 rfl rfl dX11_ruleOne_144 ?_
              refine g_iconst (pc := 147) C dX11_ruleOne_147 ?_
              refine g_ialdK (pc := 148) C 2 7 rfl rfl (Nat.le_of_ble_eq_true rfl) (Nat.le_of_ble_eq_true rfl) dX11_ruleOne_148 ?_
              refine g_icmp_lt (pc := 149) C (tgt := 157) dX11_ruleOne_149 (by decide) hf (fun hf => ?_) (fun hf => ?_)
              · refine g_sub [6, 7, 0, 4, 5, 1, 2, 3] [1, 2, 3, 4, 5] (by decide) rfl rfl rfl ?_
                exact H157 _ _ _ _ _ _ _ _ _ _ hf
              · refine g_aload_n (pc := 152) C 1 dX11_ruleOne_152 rfl rfl ?_
                refine g_iconst (pc := 153) C dX11_ruleOne_153 ?_
                refine g_put (pc := 154) C zf_X11_134 tyX11 tyX11_ok nmX11 (v := .int (zI 1)) (ws' := [((aMo 13), .inl (ca 0, 20160, .inl (zA mo_laid))), ((aMo 19), .inl (ca 0, 400, .inl (zA mo_foundAt))), ((aMo 20), .inl (ca 0, 400, .inl (zA mo_foundRule))), ((aMo 21), .inl (ca 0, 400, .inl (zA mo_foundMany))), ((aMo 15), .inl (ca 0, 60, .inl (zA mo_runFrom))), ((aMo 16), .inl (ca 0, 60, .inl (zA mo_runTo))), ((aMo 0), .inr (11, [.ref (aMo 1), .int (zI mo_taped), .ref (aMo 3), .ref (aMo 4), .ref (aMo 5), .ref (aMo 6), .ref (aMo 7), .ref (aMo 8), .ref (aMo 9), .ref (aMo 10), .ref (aMo 11), .ref (aMo 12), .ref (aMo 13), .ref (aMo 14), .ref (aMo 15), .ref (aMo 16), .int (zI mo_size), .int (zI mo_runs), .ref (aMo 19), .ref (aMo 20), .ref (aMo 21), .int (zI mo_found), .int (zI mo_counted), .int (zI 1), .ref (aMo 25), .ref (aMo 26), .ref (aMo 27), .ref (aMo 28), .ref (aMo 29), .int (zI mo_maybes), .int (zI mo_days), .int (zI mo_over2), .int (zI mo_longer), .ref (aMo 34)])), ((aMo 3), .inl (ca 0, 11, .inl (zA mo_rules)))]) 6 rfl rfl rfl (by decide) (by decide) (Nat.le_of_ble_eq_true rfl) rfl rfl dX11_ruleOne_154 ?_
                refine g_sub [6, 7, 0, 4, 5, 1, 2, 3] [1, 2, 3, 4, 5] (by decide) rfl rfl rfl ?_
                exact H157 _ _ _ _ _ _ _ _ _ _ hf
            · refine g_aload_n (pc := 117) C 1 dX11_ruleOne_117 rfl rfl ?_
              refine g_iload_n (pc := 118) C 3 dX11_ruleOne_118 rfl rfl ?_
              refine g_iconst (pc := 119) C dX11_ruleOne_119 ?_
              refine g_iload_n (pc := 120) C 2 dX11_ruleOne_120 rfl rfl ?_
              obtain ⟨⟨mo_foundAt_121, mo_foundRule_121, mo_foundMany_121, mo_found_121⟩, hc_121, hf⟩ := Option.bind_eq_some_iff.mp hf
              dsimp only at hf
              refine g_callV (pc := 121) C hl0 (wr := [((aMo 13), .inl (ca 0, 20160, .inl (zA mo_laid))), ((aMo 15), .inl (ca 0, 60, .inl (zA mo_runFrom))), ((aMo 16), .inl (ca 0, 60, .inl (zA mo_runTo))), ((aMo 3), .inl (ca 0, 11, .inl (zA mo_rules)))]) (k' := 0) (n' := 0) (ws' := fun _ => [((aMo 13), .inl (ca 0, 20160, .inl (zA mo_laid))), ((aMo 15), .inl (ca 0, 60, .inl (zA mo_runFrom))), ((aMo 16), .inl (ca 0, 60, .inl (zA mo_runTo))), ((aMo 3), .inl (ca 0, 11, .inl (zA mo_rules))), ((aMo 0), .inr (11, [.ref (aMo 1), .int (zI mo_taped), .ref (aMo 3), .ref (aMo 4), .ref (aMo 5), .ref (aMo 6), .ref (aMo 7), .ref (aMo 8), .ref (aMo 9), .ref (aMo 10), .ref (aMo 11), .ref (aMo 12), .ref (aMo 13), .ref (aMo 14), .ref (aMo 15), .ref (aMo 16), .int (zI mo_size), .int (zI mo_runs), .ref (aMo 19), .ref (aMo 20), .ref (aMo 21), .int (zI mo_found_121), .int (zI mo_counted), .int (zI mo_isParted), .ref (aMo 25), .ref (aMo 26), .ref (aMo 27), .ref (aMo 28), .ref (aMo 29), .int (zI mo_maybes), .int (zI mo_days), .int (zI mo_over2), .int (zI mo_longer), .ref (aMo 34)])), ((aMo 19), .inl (ca 0, 400, .inl (zA mo_foundAt_121))), ((aMo 20), .inl (ca 0, 400, .inl (zA mo_foundRule_121))), ((aMo 21), .inl (ca 0, 400, .inl (zA mo_foundMany_121)))]) (st' := []) (kX11_tells l D ca aMo mo_taped mo_size mo_runs mo_foundAt mo_foundRule mo_foundMany mo_found mo_counted mo_isParted mo_maybes mo_days mo_over2 mo_longer v2 1 v1 (mo_foundAt_121, mo_foundRule_121, mo_foundMany_121, mo_found_121) hc_121) wml_RX11_147 wim_X11_tells wse_X11_tells win_RX11 wco_X11_tells (nA := 3) rfl (by decide +kernel)  ⟨(Nat.le_of_ble_eq_true rfl), (Nat.le_of_ble_eq_true rfl)⟩ (Nat.le_refl _) (Nat.le_refl _) rfl (Nat.le_of_ble_eq_true rfl) dX11_ruleOne_121 6 11 rfl rfl rfl [6, 1, 2, 3] [0, 4, 5, 7] rfl rfl rfl (by decide) (by decide) (by decide) rfl rfl (fun _ => rfl) rfl (fun _ => ?_)
              refine g_aload_n (pc := 124) C 1 dX11_ruleOne_124 rfl rfl ?_
              refine g_iconst (pc := 125) C dX11_ruleOne_125 ?_
              refine g_put (pc := 126) C zf_X11_138 tyX11 tyX11_ok nmX11 (v := .int (zI 0)) (ws' := [((aMo 13), .inl (ca 0, 20160, .inl (zA mo_laid))), ((aMo 15), .inl (ca 0, 60, .inl (zA mo_runFrom))), ((aMo 16), .inl (ca 0, 60, .inl (zA mo_runTo))), ((aMo 3), .inl (ca 0, 11, .inl (zA mo_rules))), ((aMo 0), .inr (11, [.ref (aMo 1), .int (zI mo_taped), .ref (aMo 3), .ref (aMo 4), .ref (aMo 5), .ref (aMo 6), .ref (aMo 7), .ref (aMo 8), .ref (aMo 9), .ref (aMo 10), .ref (aMo 11), .ref (aMo 12), .ref (aMo 13), .ref (aMo 14), .ref (aMo 15), .ref (aMo 16), .int (zI mo_size), .int (zI mo_runs), .ref (aMo 19), .ref (aMo 20), .ref (aMo 21), .int (zI mo_found_121), .int (zI 0), .int (zI mo_isParted), .ref (aMo 25), .ref (aMo 26), .ref (aMo 27), .ref (aMo 28), .ref (aMo 29), .int (zI mo_maybes), .int (zI mo_days), .int (zI mo_over2), .int (zI mo_longer), .ref (aMo 34)])), ((aMo 19), .inl (ca 0, 400, .inl (zA mo_foundAt_121))), ((aMo 20), .inl (ca 0, 400, .inl (zA mo_foundRule_121))), ((aMo 21), .inl (ca 0, 400, .inl (zA mo_foundMany_121)))]) 4 rfl rfl rfl rfl rfl (Nat.le_of_ble_eq_true rfl) rfl rfl dX11_ruleOne_126 ?_
              refine g_aload_n (pc := 129) C 1 dX11_ruleOne_129 rfl rfl ?_
              refine g_iconst (pc := 130) C dX11_ruleOne_130 ?_
              refine g_put (pc := 131) C zf_X11_134 tyX11 tyX11_ok nmX11 (v := .int (zI 0)) (ws' := [((aMo 13), .inl (ca 0, 20160, .inl (zA mo_laid))), ((aMo 15), .inl (ca 0, 60, .inl (zA mo_runFrom))), ((aMo 16), .inl (ca 0, 60, .inl (zA mo_runTo))), ((aMo 3), .inl (ca 0, 11, .inl (zA mo_rules))), ((aMo 0), .inr (11, [.ref (aMo 1), .int (zI mo_taped), .ref (aMo 3), .ref (aMo 4), .ref (aMo 5), .ref (aMo 6), .ref (aMo 7), .ref (aMo 8), .ref (aMo 9), .ref (aMo 10), .ref (aMo 11), .ref (aMo 12), .ref (aMo 13), .ref (aMo 14), .ref (aMo 15), .ref (aMo 16), .int (zI mo_size), .int (zI mo_runs), .ref (aMo 19), .ref (aMo 20), .ref (aMo 21), .int (zI mo_found_121), .int (zI 0), .int (zI 0), .ref (aMo 25), .ref (aMo 26), .ref (aMo 27), .ref (aMo 28), .ref (aMo 29), .int (zI mo_maybes), .int (zI mo_days), .int (zI mo_over2), .int (zI mo_longer), .ref (aMo 34)])), ((aMo 19), .inl (ca 0, 400, .inl (zA mo_foundAt_121))), ((aMo 20), .inl (ca 0, 400, .inl (zA mo_foundRule_121))), ((aMo 21), .inl (ca 0, 400, .inl (zA mo_foundMany_121)))]) 4 rfl rfl rfl (by decide) (by decide) (Nat.le_of_ble_eq_true rfl) rfl rfl dX11_ruleOne_131 ?_
              refine g_iconst (pc := 134) C dX11_ruleOne_134 ?_
              refine g_istore_n (pc := 135) C (lv' := [(1, .int (zI 0)), (5, .int (zI r_103)), (0, .ref (aMo 0)), (2, .int (zI v2)), (3, .int (zI v3)), (4, .int (zI v4))]) dX11_ruleOne_135 rfl (Nat.le_of_ble_eq_true rfl) rfl ?_
              refine g_iconst (pc := 136) C dX11_ruleOne_136 ?_
              refine g_istore_n (pc := 137) C (lv' := [(2, .int (zI (-1))), (1, .int (zI 0)), (5, .int (zI r_103)), (0, .ref (aMo 0)), (3, .int (zI v3)), (4, .int (zI v4))]) dX11_ruleOne_137 rfl (Nat.le_of_ble_eq_true rfl) rfl ?_
              refine g_goto (pc := 138) C (tgt := 157) dX11_ruleOne_138 (by decide) ?_
              refine g_sub [4, 3, 0, 1, 2, 5, 6, 7] [3, 1, 0, 4, 5] (by decide) rfl rfl rfl ?_
              exact H157 _ _ _ _ _ _ _ _ _ _ hf
          · refine g_goto (pc := 98) C (tgt := 161) dX11_ruleOne_98 (by decide) ?_
            exact H161 _ _ _ _ _ _ _ _ _ _ hf
      have H76 : ∀ (v1 : Int) (v3 : Int) (v4 : Int) (s0 : Int) (mo_foundAt : Nat → Int) (mo_foundRule : Nat → Int) (mo_foundMany : Nat → Int) (mo_found : Int) (mo_counted : Int) (mo_isParted : Int), fX11_ruleOne_76 (zlp (fX11_ruleOne_19 mo_rules mo_laid mo_runFrom mo_runTo mo_size mo_runs) n19) v1 v3 v4 s0 mo_rules mo_runFrom mo_runTo mo_runs mo_foundAt mo_foundRule mo_foundMany mo_found mo_counted mo_isParted = some Ro → Zd D Γ 0 0 [((aMo 0), .inr (11, [.ref (aMo 1), .int (zI mo_taped), .ref (aMo 3), .ref (aMo 4), .ref (aMo 5), .ref (aMo 6), .ref (aMo 7), .ref (aMo 8), .ref (aMo 9), .ref (aMo 10), .ref (aMo 11), .ref (aMo 12), .ref (aMo 13), .ref (aMo 14), .ref (aMo 15), .ref (aMo 16), .int (zI mo_size), .int (zI mo_runs), .ref (aMo 19), .ref (aMo 20), .ref (aMo 21), .int (zI mo_found), .int (zI mo_counted), .int (zI mo_isParted), .ref (aMo 25), .ref (aMo 26), .ref (aMo 27), .ref (aMo 28), .ref (aMo 29), .int (zI mo_maybes), .int (zI mo_days), .int (zI mo_over2), .int (zI mo_longer), .ref (aMo 34)])), ((aMo 3), .inl (ca 0, 11, .inl (zA mo_rules))), ((aMo 13), .inl (ca 0, 20160, .inl (zA mo_laid))), ((aMo 15), .inl (ca 0, 60, .inl (zA mo_runFrom))), ((aMo 16), .inl (ca 0, 60, .inl (zA mo_runTo))), ((aMo 19), .inl (ca 0, 400, .inl (zA mo_foundAt))), ((aMo 20), .inl (ca 0, 400, .inl (zA mo_foundRule))), ((aMo 21), .inl (ca 0, 400, .inl (zA mo_foundMany)))] 76 [(0, .ref (aMo 0)), (1, .int (zI v1)), (3, .int (zI v3)), (4, .int (zI v4))] [.int (zI s0)] := by
        intro v1 v3 v4 s0 mo_foundAt mo_foundRule mo_foundMany mo_found mo_counted mo_isParted hf
        unfold fX11_ruleOne_76 at hf
        refine g_istore_n (pc := 76) C (lv' := [(2, .int (zI s0)), (0, .ref (aMo 0)), (1, .int (zI v1)), (3, .int (zI v3)), (4, .int (zI v4))]) dX11_ruleOne_76 rfl (Nat.le_of_ble_eq_true rfl) rfl ?_
        refine g_sub [0, 1, 2, 3, 4, 5, 6, 7] [1, 2, 0, 3, 4] (by decide) rfl rfl rfl ?_
        exact H77 _ _ _ _ _ _ _ _ _ _ hf
      intro v1 v2 v3 v4 mo_foundAt mo_foundRule mo_foundMany mo_found mo_counted mo_isParted hf
      rw [zlp_s] at hf
      unfold fX11_ruleOne_19 at hf
      dsimp only at hf
      refine g_iload (pc := 19) C 4 dX11_ruleOne_19 rfl ?_
      refine g_aload_n (pc := 21) C 0 dX11_ruleOne_21 rfl rfl ?_
      refine g_get (pc := 22) C zf_X11_121 0 rfl rfl dX11_ruleOne_22 ?_
      refine g_icmp_ge (pc := 25) C (tgt := 167) dX11_ruleOne_25 (by decide) hf (fun hf => ?_) (fun hf => ?_)
      · refine g_aload_n (pc := 167) C 0 dX11_ruleOne_167 rfl rfl ?_
        refine g_iload_n (pc := 168) C 2 dX11_ruleOne_168 rfl rfl ?_
        refine g_iconst (pc := 169) C dX11_ruleOne_169 ?_
        refine g_iload_n (pc := 170) C 1 dX11_ruleOne_170 rfl rfl ?_
        obtain ⟨⟨mo_foundAt_171, mo_foundRule_171, mo_foundMany_171, mo_found_171⟩, hc_171, hf⟩ := Option.bind_eq_some_iff.mp hf
        dsimp only at hf
        refine g_callV (pc := 171) C hl0 (wr := [((aMo 3), .inl (ca 0, 11, .inl (zA mo_rules))), ((aMo 13), .inl (ca 0, 20160, .inl (zA mo_laid))), ((aMo 15), .inl (ca 0, 60, .inl (zA mo_runFrom))), ((aMo 16), .inl (ca 0, 60, .inl (zA mo_runTo)))]) (k' := 0) (n' := 0) (ws' := fun _ => [((aMo 3), .inl (ca 0, 11, .inl (zA mo_rules))), ((aMo 13), .inl (ca 0, 20160, .inl (zA mo_laid))), ((aMo 15), .inl (ca 0, 60, .inl (zA mo_runFrom))), ((aMo 16), .inl (ca 0, 60, .inl (zA mo_runTo))), ((aMo 0), .inr (11, [.ref (aMo 1), .int (zI mo_taped), .ref (aMo 3), .ref (aMo 4), .ref (aMo 5), .ref (aMo 6), .ref (aMo 7), .ref (aMo 8), .ref (aMo 9), .ref (aMo 10), .ref (aMo 11), .ref (aMo 12), .ref (aMo 13), .ref (aMo 14), .ref (aMo 15), .ref (aMo 16), .int (zI mo_size), .int (zI mo_runs), .ref (aMo 19), .ref (aMo 20), .ref (aMo 21), .int (zI mo_found_171), .int (zI mo_counted), .int (zI mo_isParted), .ref (aMo 25), .ref (aMo 26), .ref (aMo 27), .ref (aMo 28), .ref (aMo 29), .int (zI mo_maybes), .int (zI mo_days), .int (zI mo_over2), .int (zI mo_longer), .ref (aMo 34)])), ((aMo 19), .inl (ca 0, 400, .inl (zA mo_foundAt_171))), ((aMo 20), .inl (ca 0, 400, .inl (zA mo_foundRule_171))), ((aMo 21), .inl (ca 0, 400, .inl (zA mo_foundMany_171)))]) (st' := []) (kX11_tells l D ca aMo mo_taped mo_size mo_runs mo_foundAt mo_foundRule mo_foundMany mo_found mo_counted mo_isParted mo_maybes mo_days mo_over2 mo_longer v2 1 v1 (mo_foundAt_171, mo_foundRule_171, mo_foundMany_171, mo_found_171) hc_171) wml_RX11_147 wim_X11_tells wse_X11_tells win_RX11 wco_X11_tells (nA := 3) rfl (by decide +kernel)  ⟨(Nat.le_of_ble_eq_true rfl), (Nat.le_of_ble_eq_true rfl)⟩ (Nat.le_refl _) (Nat.le_refl _) rfl (Nat.le_of_ble_eq_true rfl) dX11_ruleOne_171 0 11 rfl rfl rfl [0, 5, 6, 7] [1, 2, 3, 4] rfl rfl rfl (by decide) (by decide) (by decide) rfl rfl (fun _ => rfl) rfl (fun _ => ?_)
        exact g_vret (pc := 174) C hf E rfl (fun _ => 0) [4, 0, 1, 2, 3, 5, 6, 7] (by decide) rfl rfl (Nat.le_refl _) (Nat.le_refl _) dX11_ruleOne_174
      · refine g_aload_n (pc := 28) C 0 dX11_ruleOne_28 rfl rfl ?_
        refine g_get (pc := 29) C zf_X11_44 0 rfl rfl dX11_ruleOne_29 ?_
        refine g_iload (pc := 32) C 4 dX11_ruleOne_32 rfl ?_
        refine g_iald (pc := 34) C (N := 20160) 2 rfl rfl (Nat.le_of_ble_eq_true rfl) dX11_ruleOne_34 hf (fun hf => ?_)
        refine g_if_ne (pc := 35) C (tgt := 77) dX11_ruleOne_35 (by decide) hf (fun hf => ?_) (fun hf => ?_)
        · exact H77 _ _ _ _ _ _ _ _ _ _ hf
        · refine g_aload_n (pc := 38) C 0 dX11_ruleOne_38 rfl rfl ?_
          refine g_aload_n (pc := 39) C 0 dX11_ruleOne_39 rfl rfl ?_
          refine g_get (pc := 40) C zf_X11_138 0 rfl rfl dX11_ruleOne_40 ?_
          refine g_iconst (pc := 43) C dX11_ruleOne_43 ?_
          refine g_iadd (pc := 44) C dX11_ruleOne_44 ?_
          refine g_put (pc := 45) C zf_X11_138 tyX11 tyX11_ok nmX11 (v := .int (zI (mo_counted + 1))) (ws' := [((aMo 0), .inr (11, [.ref (aMo 1), .int (zI mo_taped), .ref (aMo 3), .ref (aMo 4), .ref (aMo 5), .ref (aMo 6), .ref (aMo 7), .ref (aMo 8), .ref (aMo 9), .ref (aMo 10), .ref (aMo 11), .ref (aMo 12), .ref (aMo 13), .ref (aMo 14), .ref (aMo 15), .ref (aMo 16), .int (zI mo_size), .int (zI mo_runs), .ref (aMo 19), .ref (aMo 20), .ref (aMo 21), .int (zI mo_found), .int (zI (mo_counted + 1)), .int (zI mo_isParted), .ref (aMo 25), .ref (aMo 26), .ref (aMo 27), .ref (aMo 28), .ref (aMo 29), .int (zI mo_maybes), .int (zI mo_days), .int (zI mo_over2), .int (zI mo_longer), .ref (aMo 34)])), ((aMo 3), .inl (ca 0, 11, .inl (zA mo_rules))), ((aMo 13), .inl (ca 0, 20160, .inl (zA mo_laid))), ((aMo 15), .inl (ca 0, 60, .inl (zA mo_runFrom))), ((aMo 16), .inl (ca 0, 60, .inl (zA mo_runTo))), ((aMo 19), .inl (ca 0, 400, .inl (zA mo_foundAt))), ((aMo 20), .inl (ca 0, 400, .inl (zA mo_foundRule))), ((aMo 21), .inl (ca 0, 400, .inl (zA mo_foundMany)))]) 0 rfl rfl rfl rfl rfl (Nat.le_of_ble_eq_true rfl) rfl rfl dX11_ruleOne_45 ?_
          refine g_aload_n (pc := 48) C 0 dX11_ruleOne_48 rfl rfl ?_
          refine g_get (pc := 49) C zf_X11_138 0 rfl rfl dX11_ruleOne_49 ?_
          refine g_aload_n (pc := 52) C 0 dX11_ruleOne_52 rfl rfl ?_
          refine g_get (pc := 53) C zf_X11_13 0 rfl rfl dX11_ruleOne_53 ?_
          refine g_iconst (pc := 56) C dX11_ruleOne_56 ?_
          refine g_ialdK (pc := 57) C 0 1 rfl rfl (Nat.le_of_ble_eq_true rfl) (Nat.le_of_ble_eq_true rfl) dX11_ruleOne_57 ?_
          refine g_icmp_le (pc := 58) C (tgt := 77) dX11_ruleOne_58 (by decide) hf (fun hf => ?_) (fun hf => ?_)
          · exact H77 _ _ _ _ _ _ _ _ _ _ hf
          · refine g_iload_n (pc := 61) C 1 dX11_ruleOne_61 rfl rfl ?_
            refine g_iconst (pc := 62) C dX11_ruleOne_62 ?_
            refine g_iadd (pc := 63) C dX11_ruleOne_63 ?_
            refine g_istore_n (pc := 64) C (lv' := [(1, .int (zI (v1 + 1))), (0, .ref (aMo 0)), (2, .int (zI v2)), (3, .int (zI v3)), (4, .int (zI v4))]) dX11_ruleOne_64 rfl (Nat.le_of_ble_eq_true rfl) rfl ?_
            refine g_iload_n (pc := 65) C 2 dX11_ruleOne_65 rfl rfl ?_
            refine g_iconst (pc := 66) C dX11_ruleOne_66 ?_
            refine g_icmp_ner (pc := 67) C (tgt := 75) dX11_ruleOne_67 (by decide) (by decide) hf (fun hf => ?_) (fun hf => ?_)
            · refine g_iload_n (pc := 75) C 2 dX11_ruleOne_75 rfl rfl ?_
              refine g_sub [0, 1, 2, 3, 4, 5, 6, 7] [1, 0, 3, 4] (by decide) rfl rfl rfl ?_
              exact H76 _ _ _ _ _ _ _ _ _ _ hf
            · refine g_iload (pc := 70) C 4 dX11_ruleOne_70 rfl ?_
              refine g_goto (pc := 72) C (tgt := 76) dX11_ruleOne_72 (by decide) ?_
              refine g_sub [0, 1, 2, 3, 4, 5, 6, 7] [1, 0, 3, 4] (by decide) rfl rfl rfl ?_
              exact H76 _ _ _ _ _ _ _ _ _ _ hf
  unfold fX11_ruleOne at hf
  refine g_aload_n (pc := 0) C 0 dX11_ruleOne_0 rfl rfl ?_
  refine g_iconst (pc := 1) C dX11_ruleOne_1 ?_
  refine g_put (pc := 2) C zf_X11_138 tyX11 tyX11_ok nmX11 (v := .int (zI 0)) (ws' := [((aMo 0), .inr (11, [.ref (aMo 1), .int (zI mo_taped), .ref (aMo 3), .ref (aMo 4), .ref (aMo 5), .ref (aMo 6), .ref (aMo 7), .ref (aMo 8), .ref (aMo 9), .ref (aMo 10), .ref (aMo 11), .ref (aMo 12), .ref (aMo 13), .ref (aMo 14), .ref (aMo 15), .ref (aMo 16), .int (zI mo_size), .int (zI mo_runs), .ref (aMo 19), .ref (aMo 20), .ref (aMo 21), .int (zI mo_found), .int (zI 0), .int (zI mo_isParted), .ref (aMo 25), .ref (aMo 26), .ref (aMo 27), .ref (aMo 28), .ref (aMo 29), .int (zI mo_maybes), .int (zI mo_days), .int (zI mo_over2), .int (zI mo_longer), .ref (aMo 34)])), ((aMo 3), .inl (ca 0, 11, .inl (zA mo_rules))), ((aMo 13), .inl (ca 0, 20160, .inl (zA mo_laid))), ((aMo 15), .inl (ca 0, 60, .inl (zA mo_runFrom))), ((aMo 16), .inl (ca 0, 60, .inl (zA mo_runTo))), ((aMo 19), .inl (ca 0, 400, .inl (zA mo_foundAt))), ((aMo 20), .inl (ca 0, 400, .inl (zA mo_foundRule))), ((aMo 21), .inl (ca 0, 400, .inl (zA mo_foundMany)))]) 0 rfl rfl rfl rfl rfl (Nat.le_of_ble_eq_true rfl) rfl rfl dX11_ruleOne_2 ?_
  refine g_aload_n (pc := 5) C 0 dX11_ruleOne_5 rfl rfl ?_
  refine g_iconst (pc := 6) C dX11_ruleOne_6 ?_
  refine g_put (pc := 7) C zf_X11_134 tyX11 tyX11_ok nmX11 (v := .int (zI 0)) (ws' := [((aMo 0), .inr (11, [.ref (aMo 1), .int (zI mo_taped), .ref (aMo 3), .ref (aMo 4), .ref (aMo 5), .ref (aMo 6), .ref (aMo 7), .ref (aMo 8), .ref (aMo 9), .ref (aMo 10), .ref (aMo 11), .ref (aMo 12), .ref (aMo 13), .ref (aMo 14), .ref (aMo 15), .ref (aMo 16), .int (zI mo_size), .int (zI mo_runs), .ref (aMo 19), .ref (aMo 20), .ref (aMo 21), .int (zI mo_found), .int (zI 0), .int (zI 0), .ref (aMo 25), .ref (aMo 26), .ref (aMo 27), .ref (aMo 28), .ref (aMo 29), .int (zI mo_maybes), .int (zI mo_days), .int (zI mo_over2), .int (zI mo_longer), .ref (aMo 34)])), ((aMo 3), .inl (ca 0, 11, .inl (zA mo_rules))), ((aMo 13), .inl (ca 0, 20160, .inl (zA mo_laid))), ((aMo 15), .inl (ca 0, 60, .inl (zA mo_runFrom))), ((aMo 16), .inl (ca 0, 60, .inl (zA mo_runTo))), ((aMo 19), .inl (ca 0, 400, .inl (zA mo_foundAt))), ((aMo 20), .inl (ca 0, 400, .inl (zA mo_foundRule))), ((aMo 21), .inl (ca 0, 400, .inl (zA mo_foundMany)))]) 0 rfl rfl rfl (by decide) (by decide) (Nat.le_of_ble_eq_true rfl) rfl rfl dX11_ruleOne_7 ?_
  refine g_iconst (pc := 10) C dX11_ruleOne_10 ?_
  refine g_istore_n (pc := 11) C (lv' := [(1, .int (zI 0)), (0, .ref (aMo 0))]) dX11_ruleOne_11 rfl (Nat.le_of_ble_eq_true rfl) rfl ?_
  refine g_iconst (pc := 12) C dX11_ruleOne_12 ?_
  refine g_istore_n (pc := 13) C (lv' := [(2, .int (zI (-1))), (1, .int (zI 0)), (0, .ref (aMo 0))]) dX11_ruleOne_13 rfl (Nat.le_of_ble_eq_true rfl) rfl ?_
  refine g_iconst (pc := 14) C dX11_ruleOne_14 ?_
  refine g_istore_n (pc := 15) C (lv' := [(3, .int (zI 0)), (2, .int (zI (-1))), (1, .int (zI 0)), (0, .ref (aMo 0))]) dX11_ruleOne_15 rfl (Nat.le_of_ble_eq_true rfl) rfl ?_
  refine g_iconst (pc := 16) C dX11_ruleOne_16 ?_
  refine g_istore (pc := 17) C (lv' := [(4, .int (zI 0)), (3, .int (zI 0)), (2, .int (zI (-1))), (1, .int (zI 0)), (0, .ref (aMo 0))]) dX11_ruleOne_17 (Nat.le_of_ble_eq_true rfl) rfl ?_
  refine g_sub [0, 1, 2, 3, 4, 5, 6, 7] [4, 3, 2, 1, 0] (by decide) rfl rfl rfl ?_
  exact H19 _ _ _ _ _ _ _ _ _ _ _ hf
