set_option maxRecDepth 100000 in
theorem kX11_isCard (l : Launch) (D : va_G) (ca : Nat → ClassId)   (v0 : Int) (r_o : Int)
    (hf : fX11_isCard v0 = some r_o) : Zc l D ca yX11_isCard cX11_isCard 1 (some .boolean) { frames := 0, cells := 0, slots := 0, locals := 0 } [.int (zI v0)] [] (some (.int (zI r_o))) (fun _ => []) := by
  refine ctr_of (lv := [(0, .int (zI v0))]) (by decide +kernel) (Nat.le_of_ble_eq_true rfl) rfl (fun Γ hl0 C E hnm => ?_)
  have H13 : fX11_isCard_13 = some r_o → Zd D Γ 0 0 [] 13 [] [] := by
    intro  hf
    unfold fX11_isCard_13 at hf
    refine g_iconst (pc := 13) C dX11_isCard_13 ?_
    cases hf
    exact g_zret (pc := 14) C E (by decide) (fun _ => 0) [] (by decide) rfl rfl (Nat.le_refl _) (Nat.le_refl _) dX11_isCard_14
  unfold fX11_isCard at hf
  refine g_iload_n (pc := 0) C 0 dX11_isCard_0 rfl rfl ?_
  refine g_if_lt (pc := 1) C (tgt := 13) dX11_isCard_1 (by decide) hf (fun hf => ?_) (fun hf => ?_)
  · refine g_sub [] [] (by decide) rfl rfl rfl ?_
    exact H13  hf
  · refine g_iload_n (pc := 4) C 0 dX11_isCard_4 rfl rfl ?_
    refine g_iconst (pc := 5) C dX11_isCard_5 ?_
    refine g_icmp_ger (pc := 6) C (tgt := 13) dX11_isCard_6 (by decide) (by decide) hf (fun hf => ?_) (fun hf => ?_)
    · refine g_sub [] [] (by decide) rfl rfl rfl ?_
      exact H13  hf
    · refine g_iconst (pc := 9) C dX11_isCard_9 ?_
      refine g_goto (pc := 10) C (tgt := 14) dX11_isCard_10 (by decide) ?_
      cases hf
      exact g_zret (pc := 14) C E (by decide) (fun _ => 0) [] (by decide) rfl rfl (Nat.le_refl _) (Nat.le_refl _) dX11_isCard_14
set_option maxRecDepth 100000 in
theorem kX11_isKind (l : Launch) (D : va_G) (ca : Nat → ClassId)   (v0 : Int) (v1 : Int) (r_o : Int)
    (hf : fX11_isKind v0 v1 = some r_o) : Zc l D ca yX11_isKind cX11_isKind 2 (some .boolean) { frames := 0, cells := 0, slots := 0, locals := 0 } [.int (zI v0), .int (zI v1)] [] (some (.int (zI r_o))) (fun _ => []) := by
  refine ctr_of (lv := [(0, .int (zI v0)), (1, .int (zI v1))]) (by decide +kernel) (Nat.le_of_ble_eq_true rfl) rfl (fun Γ hl0 C E hnm => ?_)
  have H22 : fX11_isKind_22 = some r_o → Zd D Γ 0 0 [] 22 [] [] := by
    intro  hf
    unfold fX11_isKind_22 at hf
    refine g_iconst (pc := 22) C dX11_isKind_22 ?_
    refine g_goto (pc := 23) C (tgt := 27) dX11_isKind_23 (by decide) ?_
    cases hf
    exact g_zret (pc := 27) C E (by decide) (fun _ => 0) [] (by decide) rfl rfl (Nat.le_refl _) (Nat.le_refl _) dX11_isKind_27
  have H26 : fX11_isKind_26 = some r_o → Zd D Γ 0 0 [] 26 [] [] := by
    intro  hf
    unfold fX11_isKind_26 at hf
    refine g_iconst (pc := 26) C dX11_isKind_26 ?_
    cases hf
    exact g_zret (pc := 27) C E (by decide) (fun _ => 0) [] (by decide) rfl rfl (Nat.le_refl _) (Nat.le_refl _) dX11_isKind_27
  unfold fX11_isKind at hf
  refine g_iload_n (pc := 0) C 0 dX11_isKind_0 rfl rfl ?_
  refine g_if_lt (pc := 1) C (tgt := 26) dX11_isKind_1 (by decide) hf (fun hf => ?_) (fun hf => ?_)
  · refine g_sub [] [] (by decide) rfl rfl rfl ?_
    exact H26  hf
  · refine g_iload_n (pc := 4) C 0 dX11_isKind_4 rfl rfl ?_
    refine g_iconst (pc := 5) C dX11_isKind_5 ?_
    refine g_icmp_gtr (pc := 6) C (tgt := 26) dX11_isKind_6 (by decide) (by decide) hf (fun hf => ?_) (fun hf => ?_)
    · refine g_sub [] [] (by decide) rfl rfl rfl ?_
      exact H26  hf
    · refine g_iload_n (pc := 9) C 0 dX11_isKind_9 rfl rfl ?_
      refine g_if_ne (pc := 10) C (tgt := 22) dX11_isKind_10 (by decide) hf (fun hf => ?_) (fun hf => ?_)
      · refine g_sub [] [] (by decide) rfl rfl rfl ?_
        exact H22  hf
      · refine g_iload_n (pc := 13) C 1 dX11_isKind_13 rfl rfl ?_
        refine g_if_eq (pc := 14) C (tgt := 22) dX11_isKind_14 (by decide) hf (fun hf => ?_) (fun hf => ?_)
        · refine g_sub [] [] (by decide) rfl rfl rfl ?_
          exact H22  hf
        · refine g_iload_n (pc := 17) C 1 dX11_isKind_17 rfl rfl ?_
          refine g_iconst (pc := 18) C dX11_isKind_18 ?_
          refine g_icmp_ner (pc := 19) C (tgt := 26) dX11_isKind_19 (by decide) (by decide) hf (fun hf => ?_) (fun hf => ?_)
          · refine g_sub [] [] (by decide) rfl rfl rfl ?_
            exact H26  hf
          · refine g_sub [] [] (by decide) rfl rfl rfl ?_
            exact H22  hf
set_option maxRecDepth 100000 in
theorem kX11_act (l : Launch) (D : va_G) (ca : Nat → ClassId) (aMo : Nat → Nat) (mo_taped : Int) (mo_acts : Nat → Int) (mo_minutes : Nat → Int) (mo_kindOf : Nat → Int) (mo_lengthOf : Nat → Int) (mo_vehicleOf : Nat → Int) (mo_size : Int) (mo_runs : Int) (mo_found : Int) (mo_counted : Int) (mo_isParted : Int) (mo_maybes : Int) (mo_days : Int) (mo_over2 : Int) (mo_longer : Int) (v1 : Int) (v2 : Int) (v3 : Int) (v4 : Int) (r_o : Int) (mo_acts_o : Nat → Int) (mo_minutes_o : Nat → Int) (mo_kindOf_o : Nat → Int) (mo_lengthOf_o : Nat → Int) (mo_vehicleOf_o : Nat → Int)
    (hf : fX11_act v1 v2 v3 v4 mo_acts mo_minutes mo_kindOf mo_lengthOf mo_vehicleOf = some (r_o, mo_acts_o, mo_minutes_o, mo_kindOf_o, mo_lengthOf_o, mo_vehicleOf_o)) : Zc l D ca yX11_act cX11_act 6 (some .int) { frames := 1, cells := 0, slots := 0, locals := 21 } [.ref (aMo 0), .int (zI v1), .int (zI v2), .int (zI v3), .int (zI v4)] [((aMo 0), .inr (11, [.ref (aMo 1), .int (zI mo_taped), .ref (aMo 3), .ref (aMo 4), .ref (aMo 5), .ref (aMo 6), .ref (aMo 7), .ref (aMo 8), .ref (aMo 9), .ref (aMo 10), .ref (aMo 11), .ref (aMo 12), .ref (aMo 13), .ref (aMo 14), .ref (aMo 15), .ref (aMo 16), .int (zI mo_size), .int (zI mo_runs), .ref (aMo 19), .ref (aMo 20), .ref (aMo 21), .int (zI mo_found), .int (zI mo_counted), .int (zI mo_isParted), .ref (aMo 25), .ref (aMo 26), .ref (aMo 27), .ref (aMo 28), .ref (aMo 29), .int (zI mo_maybes), .int (zI mo_days), .int (zI mo_over2), .int (zI mo_longer), .ref (aMo 34)])), ((aMo 5), .inl (ca 0, 4, .inl (zA mo_acts))), ((aMo 6), .inl (ca 0, 4, .inl (zA mo_minutes))), ((aMo 7), .inl (ca 0, 240, .inl (zA mo_kindOf))), ((aMo 8), .inl (ca 0, 240, .inl (zA mo_lengthOf))), ((aMo 9), .inl (ca 0, 240, .inl (zA mo_vehicleOf)))] (some (.int (zI r_o))) (fun _ => [((aMo 0), .inr (11, [.ref (aMo 1), .int (zI mo_taped), .ref (aMo 3), .ref (aMo 4), .ref (aMo 5), .ref (aMo 6), .ref (aMo 7), .ref (aMo 8), .ref (aMo 9), .ref (aMo 10), .ref (aMo 11), .ref (aMo 12), .ref (aMo 13), .ref (aMo 14), .ref (aMo 15), .ref (aMo 16), .int (zI mo_size), .int (zI mo_runs), .ref (aMo 19), .ref (aMo 20), .ref (aMo 21), .int (zI mo_found), .int (zI mo_counted), .int (zI mo_isParted), .ref (aMo 25), .ref (aMo 26), .ref (aMo 27), .ref (aMo 28), .ref (aMo 29), .int (zI mo_maybes), .int (zI mo_days), .int (zI mo_over2), .int (zI mo_longer), .ref (aMo 34)])), ((aMo 5), .inl (ca 0, 4, .inl (zA mo_acts_o))), ((aMo 6), .inl (ca 0, 4, .inl (zA mo_minutes_o))), ((aMo 7), .inl (ca 0, 240, .inl (zA mo_kindOf_o))), ((aMo 8), .inl (ca 0, 240, .inl (zA mo_lengthOf_o))), ((aMo 9), .inl (ca 0, 240, .inl (zA mo_vehicleOf_o)))]) := by
  refine ctr_of (lv := [(0, .ref (aMo 0)), (1, .int (zI v1)), (2, .int (zI v2)), (3, .int (zI v3)), (4, .int (zI v4))]) (by decide +kernel) (Nat.le_of_ble_eq_true rfl) rfl (fun Γ hl0 C E hnm => ?_)
  have H53 : ∀ (mo_acts : Nat → Int) (mo_minutes : Nat → Int) (mo_kindOf : Nat → Int) (mo_lengthOf : Nat → Int) (mo_vehicleOf : Nat → Int), fX11_act_53 mo_acts mo_minutes mo_kindOf mo_lengthOf mo_vehicleOf = some (r_o, mo_acts_o, mo_minutes_o, mo_kindOf_o, mo_lengthOf_o, mo_vehicleOf_o) → Zd D Γ 0 0 [((aMo 0), .inr (11, [.ref (aMo 1), .int (zI mo_taped), .ref (aMo 3), .ref (aMo 4), .ref (aMo 5), .ref (aMo 6), .ref (aMo 7), .ref (aMo 8), .ref (aMo 9), .ref (aMo 10), .ref (aMo 11), .ref (aMo 12), .ref (aMo 13), .ref (aMo 14), .ref (aMo 15), .ref (aMo 16), .int (zI mo_size), .int (zI mo_runs), .ref (aMo 19), .ref (aMo 20), .ref (aMo 21), .int (zI mo_found), .int (zI mo_counted), .int (zI mo_isParted), .ref (aMo 25), .ref (aMo 26), .ref (aMo 27), .ref (aMo 28), .ref (aMo 29), .int (zI mo_maybes), .int (zI mo_days), .int (zI mo_over2), .int (zI mo_longer), .ref (aMo 34)])), ((aMo 5), .inl (ca 0, 4, .inl (zA mo_acts))), ((aMo 6), .inl (ca 0, 4, .inl (zA mo_minutes))), ((aMo 7), .inl (ca 0, 240, .inl (zA mo_kindOf))), ((aMo 8), .inl (ca 0, 240, .inl (zA mo_lengthOf))), ((aMo 9), .inl (ca 0, 240, .inl (zA mo_vehicleOf)))] 53 [] [] := by
    intro mo_acts mo_minutes mo_kindOf mo_lengthOf mo_vehicleOf hf
    unfold fX11_act_53 at hf
    refine g_iconst (pc := 53) C dX11_act_53 ?_
    cases hf
    exact g_iret (pc := 54) C E (fun _ => 0) [0, 1, 2, 3, 4, 5] (by decide) rfl rfl (Nat.le_refl _) (Nat.le_refl _) dX11_act_54
  have H100 : ∀ (s1 : Int) (s2 : Int) (mo_acts : Nat → Int) (mo_minutes : Nat → Int) (mo_kindOf : Nat → Int) (mo_lengthOf : Nat → Int) (mo_vehicleOf : Nat → Int), fX11_act_100 v1 v3 s1 s2 mo_acts mo_minutes mo_kindOf mo_lengthOf mo_vehicleOf = some (r_o, mo_acts_o, mo_minutes_o, mo_kindOf_o, mo_lengthOf_o, mo_vehicleOf_o) → Zd D Γ 0 0 [((aMo 0), .inr (11, [.ref (aMo 1), .int (zI mo_taped), .ref (aMo 3), .ref (aMo 4), .ref (aMo 5), .ref (aMo 6), .ref (aMo 7), .ref (aMo 8), .ref (aMo 9), .ref (aMo 10), .ref (aMo 11), .ref (aMo 12), .ref (aMo 13), .ref (aMo 14), .ref (aMo 15), .ref (aMo 16), .int (zI mo_size), .int (zI mo_runs), .ref (aMo 19), .ref (aMo 20), .ref (aMo 21), .int (zI mo_found), .int (zI mo_counted), .int (zI mo_isParted), .ref (aMo 25), .ref (aMo 26), .ref (aMo 27), .ref (aMo 28), .ref (aMo 29), .int (zI mo_maybes), .int (zI mo_days), .int (zI mo_over2), .int (zI mo_longer), .ref (aMo 34)])), ((aMo 5), .inl (ca 0, 4, .inl (zA mo_acts))), ((aMo 6), .inl (ca 0, 4, .inl (zA mo_minutes))), ((aMo 7), .inl (ca 0, 240, .inl (zA mo_kindOf))), ((aMo 8), .inl (ca 0, 240, .inl (zA mo_lengthOf))), ((aMo 9), .inl (ca 0, 240, .inl (zA mo_vehicleOf)))] 100 [(0, .ref (aMo 0)), (1, .int (zI v1)), (3, .int (zI v3))] [.int (zI s2), .int (zI s1), .ref (aMo 9)] := by
    intro s1 s2 mo_acts mo_minutes mo_kindOf mo_lengthOf mo_vehicleOf hf
    unfold fX11_act_100 at hf
    refine g_iast (pc := 100) C (N := 240) (ws' := [((aMo 0), .inr (11, [.ref (aMo 1), .int (zI mo_taped), .ref (aMo 3), .ref (aMo 4), .ref (aMo 5), .ref (aMo 6), .ref (aMo 7), .ref (aMo 8), .ref (aMo 9), .ref (aMo 10), .ref (aMo 11), .ref (aMo 12), .ref (aMo 13), .ref (aMo 14), .ref (aMo 15), .ref (aMo 16), .int (zI mo_size), .int (zI mo_runs), .ref (aMo 19), .ref (aMo 20), .ref (aMo 21), .int (zI mo_found), .int (zI mo_counted), .int (zI mo_isParted), .ref (aMo 25), .ref (aMo 26), .ref (aMo 27), .ref (aMo 28), .ref (aMo 29), .int (zI mo_maybes), .int (zI mo_days), .int (zI mo_over2), .int (zI mo_longer), .ref (aMo 34)])), ((aMo 5), .inl (ca 0, 4, .inl (zA mo_acts))), ((aMo 6), .inl (ca 0, 4, .inl (zA mo_minutes))), ((aMo 7), .inl (ca 0, 240, .inl (zA mo_kindOf))), ((aMo 8), .inl (ca 0, 240, .inl (zA mo_lengthOf))), ((aMo 9), .inl (ca 0, 240, .inl (zA (zU mo_vehicleOf s1.toNat s2))))]) 5 rfl rfl (Nat.le_of_ble_eq_true rfl) rfl dX11_act_100 hf (fun hf => ?_)
    refine g_aload_n (pc := 101) C 0 dX11_act_101 rfl rfl ?_
    refine g_get (pc := 102) C zf_X11_23 0 rfl rfl dX11_act_102 ?_
    refine g_iload_n (pc := 105) C 1 dX11_act_105 rfl rfl ?_
    refine g_aload_n (pc := 106) C 0 dX11_act_106 rfl rfl ?_
    refine g_get (pc := 107) C zf_X11_23 0 rfl rfl dX11_act_107 ?_
    refine g_iload_n (pc := 110) C 1 dX11_act_110 rfl rfl ?_
    refine g_iald (pc := 111) C (N := 4) 2 rfl rfl (Nat.le_of_ble_eq_true rfl) dX11_act_111 hf (fun hf => ?_)
    refine g_iload_n (pc := 112) C 2 dX11_act_112 rfl rfl ?_
    refine g_iadd (pc := 113) C dX11_act_113 ?_
    refine g_iast (pc := 114) C (N := 4) (ws' := [((aMo 0), .inr (11, [.ref (aMo 1), .int (zI mo_taped), .ref (aMo 3), .ref (aMo 4), .ref (aMo 5), .ref (aMo 6), .ref (aMo 7), .ref (aMo 8), .ref (aMo 9), .ref (aMo 10), .ref (aMo 11), .ref (aMo 12), .ref (aMo 13), .ref (aMo 14), .ref (aMo 15), .ref (aMo 16), .int (zI mo_size), .int (zI mo_runs), .ref (aMo 19), .ref (aMo 20), .ref (aMo 21), .int (zI mo_found), .int (zI mo_counted), .int (zI mo_isParted), .ref (aMo 25), .ref (aMo 26), .ref (aMo 27), .ref (aMo 28), .ref (aMo 29), .int (zI mo_maybes), .int (zI mo_days), .int (zI mo_over2), .int (zI mo_longer), .ref (aMo 34)])), ((aMo 5), .inl (ca 0, 4, .inl (zA mo_acts))), ((aMo 6), .inl (ca 0, 4, .inl (zA (zU mo_minutes v1.toNat ((mo_minutes v1.toNat) + v3))))), ((aMo 7), .inl (ca 0, 240, .inl (zA mo_kindOf))), ((aMo 8), .inl (ca 0, 240, .inl (zA mo_lengthOf))), ((aMo 9), .inl (ca 0, 240, .inl (zA (zU mo_vehicleOf s1.toNat s2))))]) 2 rfl rfl (Nat.le_of_ble_eq_true rfl) rfl dX11_act_114 hf (fun hf => ?_)
    refine g_aload_n (pc := 115) C 0 dX11_act_115 rfl rfl ?_
    refine g_get (pc := 116) C zf_X11_20 0 rfl rfl dX11_act_116 ?_
    refine g_iload_n (pc := 119) C 1 dX11_act_119 rfl rfl ?_
    refine g_aload_n (pc := 120) C 0 dX11_act_120 rfl rfl ?_
    refine g_get (pc := 121) C zf_X11_20 0 rfl rfl dX11_act_121 ?_
    refine g_iload_n (pc := 124) C 1 dX11_act_124 rfl rfl ?_
    refine g_iald (pc := 125) C (N := 4) 1 rfl rfl (Nat.le_of_ble_eq_true rfl) dX11_act_125 hf (fun hf => ?_)
    refine g_iconst (pc := 126) C dX11_act_126 ?_
    refine g_iadd (pc := 127) C dX11_act_127 ?_
    refine g_iast (pc := 128) C (N := 4) (ws' := [((aMo 0), .inr (11, [.ref (aMo 1), .int (zI mo_taped), .ref (aMo 3), .ref (aMo 4), .ref (aMo 5), .ref (aMo 6), .ref (aMo 7), .ref (aMo 8), .ref (aMo 9), .ref (aMo 10), .ref (aMo 11), .ref (aMo 12), .ref (aMo 13), .ref (aMo 14), .ref (aMo 15), .ref (aMo 16), .int (zI mo_size), .int (zI mo_runs), .ref (aMo 19), .ref (aMo 20), .ref (aMo 21), .int (zI mo_found), .int (zI mo_counted), .int (zI mo_isParted), .ref (aMo 25), .ref (aMo 26), .ref (aMo 27), .ref (aMo 28), .ref (aMo 29), .int (zI mo_maybes), .int (zI mo_days), .int (zI mo_over2), .int (zI mo_longer), .ref (aMo 34)])), ((aMo 5), .inl (ca 0, 4, .inl (zA (zU mo_acts v1.toNat ((mo_acts v1.toNat) + 1))))), ((aMo 6), .inl (ca 0, 4, .inl (zA (zU mo_minutes v1.toNat ((mo_minutes v1.toNat) + v3))))), ((aMo 7), .inl (ca 0, 240, .inl (zA mo_kindOf))), ((aMo 8), .inl (ca 0, 240, .inl (zA mo_lengthOf))), ((aMo 9), .inl (ca 0, 240, .inl (zA (zU mo_vehicleOf s1.toNat s2))))]) 1 rfl rfl (Nat.le_of_ble_eq_true rfl) rfl dX11_act_128 hf (fun hf => ?_)
    refine g_aload_n (pc := 129) C 0 dX11_act_129 rfl rfl ?_
    refine g_get (pc := 130) C zf_X11_20 0 rfl rfl dX11_act_130 ?_
    refine g_iload_n (pc := 133) C 1 dX11_act_133 rfl rfl ?_
    refine g_iald (pc := 134) C (N := 4) 1 rfl rfl (Nat.le_of_ble_eq_true rfl) dX11_act_134 hf (fun hf => ?_)
    refine g_iconst (pc := 135) C dX11_act_135 ?_
    refine g_isub (pc := 136) C dX11_act_136 ?_
    cases hf
    exact g_iret (pc := 137) C E (fun _ => 0) [0, 1, 2, 3, 4, 5] (by decide) rfl rfl (Nat.le_refl _) (Nat.le_refl _) dX11_act_137
  unfold fX11_act at hf
  refine g_iload_n (pc := 0) C 1 dX11_act_0 rfl rfl ?_
  obtain ⟨r_1, hc_1, hf⟩ := Option.bind_eq_some_iff.mp hf
  refine g_callS (pc := 1) C hl0 (wr := [((aMo 0), .inr (11, [.ref (aMo 1), .int (zI mo_taped), .ref (aMo 3), .ref (aMo 4), .ref (aMo 5), .ref (aMo 6), .ref (aMo 7), .ref (aMo 8), .ref (aMo 9), .ref (aMo 10), .ref (aMo 11), .ref (aMo 12), .ref (aMo 13), .ref (aMo 14), .ref (aMo 15), .ref (aMo 16), .int (zI mo_size), .int (zI mo_runs), .ref (aMo 19), .ref (aMo 20), .ref (aMo 21), .int (zI mo_found), .int (zI mo_counted), .int (zI mo_isParted), .ref (aMo 25), .ref (aMo 26), .ref (aMo 27), .ref (aMo 28), .ref (aMo 29), .int (zI mo_maybes), .int (zI mo_days), .int (zI mo_over2), .int (zI mo_longer), .ref (aMo 34)])), ((aMo 5), .inl (ca 0, 4, .inl (zA mo_acts))), ((aMo 6), .inl (ca 0, 4, .inl (zA mo_minutes))), ((aMo 7), .inl (ca 0, 240, .inl (zA mo_kindOf))), ((aMo 8), .inl (ca 0, 240, .inl (zA mo_lengthOf))), ((aMo 9), .inl (ca 0, 240, .inl (zA mo_vehicleOf)))]) (k' := 0) (n' := 0) (ws' := fun _ => [((aMo 0), .inr (11, [.ref (aMo 1), .int (zI mo_taped), .ref (aMo 3), .ref (aMo 4), .ref (aMo 5), .ref (aMo 6), .ref (aMo 7), .ref (aMo 8), .ref (aMo 9), .ref (aMo 10), .ref (aMo 11), .ref (aMo 12), .ref (aMo 13), .ref (aMo 14), .ref (aMo 15), .ref (aMo 16), .int (zI mo_size), .int (zI mo_runs), .ref (aMo 19), .ref (aMo 20), .ref (aMo 21), .int (zI mo_found), .int (zI mo_counted), .int (zI mo_isParted), .ref (aMo 25), .ref (aMo 26), .ref (aMo 27), .ref (aMo 28), .ref (aMo 29), .int (zI mo_maybes), .int (zI mo_days), .int (zI mo_over2), .int (zI mo_longer), .ref (aMo 34)])), ((aMo 5), .inl (ca 0, 4, .inl (zA mo_acts))), ((aMo 6), .inl (ca 0, 4, .inl (zA mo_minutes))), ((aMo 7), .inl (ca 0, 240, .inl (zA mo_kindOf))), ((aMo 8), .inl (ca 0, 240, .inl (zA mo_lengthOf))), ((aMo 9), .inl (ca 0, 240, .inl (zA mo_vehicleOf)))]) (st' := [.int (zI r_1)]) (kX11_isCard l D ca v1 r_1 hc_1) wml_RX11_110 wst_X11_isCard win_RX11 wco_X11_isCard (nA := 1) rfl (by decide +kernel)  ⟨(Nat.le_of_ble_eq_true rfl), (Nat.le_of_ble_eq_true rfl)⟩ (Nat.le_refl _) (Nat.le_refl _) rfl (by decide) dX11_act_1 [] [0, 1, 2, 3, 4, 5] rfl rfl rfl (by decide) (by decide) (by decide) rfl rfl (fun _ => rfl) rfl (fun _ => ?_)
  refine g_if_eq (pc := 4) C (tgt := 53) dX11_act_4 (by decide) hf (fun hf => ?_) (fun hf => ?_)
  · refine g_sub [0, 1, 2, 3, 4, 5] [] (by decide) rfl rfl rfl ?_
    exact H53 _ _ _ _ _ hf
  · refine g_iload_n (pc := 7) C 2 dX11_act_7 rfl rfl ?_
    refine g_iload (pc := 8) C 4 dX11_act_8 rfl ?_
    obtain ⟨r_10, hc_10, hf⟩ := Option.bind_eq_some_iff.mp hf
    refine g_callS (pc := 10) C hl0 (wr := [((aMo 0), .inr (11, [.ref (aMo 1), .int (zI mo_taped), .ref (aMo 3), .ref (aMo 4), .ref (aMo 5), .ref (aMo 6), .ref (aMo 7), .ref (aMo 8), .ref (aMo 9), .ref (aMo 10), .ref (aMo 11), .ref (aMo 12), .ref (aMo 13), .ref (aMo 14), .ref (aMo 15), .ref (aMo 16), .int (zI mo_size), .int (zI mo_runs), .ref (aMo 19), .ref (aMo 20), .ref (aMo 21), .int (zI mo_found), .int (zI mo_counted), .int (zI mo_isParted), .ref (aMo 25), .ref (aMo 26), .ref (aMo 27), .ref (aMo 28), .ref (aMo 29), .int (zI mo_maybes), .int (zI mo_days), .int (zI mo_over2), .int (zI mo_longer), .ref (aMo 34)])), ((aMo 5), .inl (ca 0, 4, .inl (zA mo_acts))), ((aMo 6), .inl (ca 0, 4, .inl (zA mo_minutes))), ((aMo 7), .inl (ca 0, 240, .inl (zA mo_kindOf))), ((aMo 8), .inl (ca 0, 240, .inl (zA mo_lengthOf))), ((aMo 9), .inl (ca 0, 240, .inl (zA mo_vehicleOf)))]) (k' := 0) (n' := 0) (ws' := fun _ => [((aMo 0), .inr (11, [.ref (aMo 1), .int (zI mo_taped), .ref (aMo 3), .ref (aMo 4), .ref (aMo 5), .ref (aMo 6), .ref (aMo 7), .ref (aMo 8), .ref (aMo 9), .ref (aMo 10), .ref (aMo 11), .ref (aMo 12), .ref (aMo 13), .ref (aMo 14), .ref (aMo 15), .ref (aMo 16), .int (zI mo_size), .int (zI mo_runs), .ref (aMo 19), .ref (aMo 20), .ref (aMo 21), .int (zI mo_found), .int (zI mo_counted), .int (zI mo_isParted), .ref (aMo 25), .ref (aMo 26), .ref (aMo 27), .ref (aMo 28), .ref (aMo 29), .int (zI mo_maybes), .int (zI mo_days), .int (zI mo_over2), .int (zI mo_longer), .ref (aMo 34)])), ((aMo 5), .inl (ca 0, 4, .inl (zA mo_acts))), ((aMo 6), .inl (ca 0, 4, .inl (zA mo_minutes))), ((aMo 7), .inl (ca 0, 240, .inl (zA mo_kindOf))), ((aMo 8), .inl (ca 0, 240, .inl (zA mo_lengthOf))), ((aMo 9), .inl (ca 0, 240, .inl (zA mo_vehicleOf)))]) (st' := [.int (zI r_10)]) (kX11_isKind l D ca v2 v4 r_10 hc_10) wml_RX11_114 wst_X11_isKind win_RX11 wco_X11_isKind (nA := 2) rfl (by decide +kernel)  ⟨(Nat.le_of_ble_eq_true rfl), (Nat.le_of_ble_eq_true rfl)⟩ (Nat.le_refl _) (Nat.le_refl _) rfl (by decide) dX11_act_10 [] [0, 1, 2, 3, 4, 5] rfl rfl rfl (by decide) (by decide) (by decide) rfl rfl (fun _ => rfl) rfl (fun _ => ?_)
    refine g_if_eq (pc := 13) C (tgt := 53) dX11_act_13 (by decide) hf (fun hf => ?_) (fun hf => ?_)
    · refine g_sub [0, 1, 2, 3, 4, 5] [] (by decide) rfl rfl rfl ?_
      exact H53 _ _ _ _ _ hf
    · refine g_iload_n (pc := 16) C 3 dX11_act_16 rfl rfl ?_
      refine g_iconst (pc := 17) C dX11_act_17 ?_
      refine g_icmp_ltr (pc := 18) C (tgt := 53) dX11_act_18 (by decide) (by decide) hf (fun hf => ?_) (fun hf => ?_)
      · refine g_sub [0, 1, 2, 3, 4, 5] [] (by decide) rfl rfl rfl ?_
        exact H53 _ _ _ _ _ hf
      · refine g_iload_n (pc := 21) C 3 dX11_act_21 rfl rfl ?_
        refine g_sipush (pc := 22) C dX11_act_22 (by decide) ?_
        refine g_icmp_gtr (pc := 25) C (tgt := 53) dX11_act_25 (by decide) (by decide) hf (fun hf => ?_) (fun hf => ?_)
        · refine g_sub [0, 1, 2, 3, 4, 5] [] (by decide) rfl rfl rfl ?_
          exact H53 _ _ _ _ _ hf
        · refine g_aload_n (pc := 28) C 0 dX11_act_28 rfl rfl ?_
          refine g_get (pc := 29) C zf_X11_20 0 rfl rfl dX11_act_29 ?_
          refine g_iload_n (pc := 32) C 1 dX11_act_32 rfl rfl ?_
          refine g_iald (pc := 33) C (N := 4) 1 rfl rfl (Nat.le_of_ble_eq_true rfl) dX11_act_33 hf (fun hf => ?_)
          refine g_bipush (pc := 34) C dX11_act_34 (by decide) ?_
          refine g_icmp_eqr (pc := 36) C (tgt := 53) dX11_act_36 (by decide) (by decide) hf (fun hf => ?_) (fun hf => ?_)
          · refine g_sub [0, 1, 2, 3, 4, 5] [] (by decide) rfl rfl rfl ?_
            exact H53 _ _ _ _ _ hf
          · refine g_aload_n (pc := 39) C 0 dX11_act_39 rfl rfl ?_
            refine g_get (pc := 40) C zf_X11_23 0 rfl rfl dX11_act_40 ?_
            refine g_iload_n (pc := 43) C 1 dX11_act_43 rfl rfl ?_
            refine g_iald (pc := 44) C (N := 4) 2 rfl rfl (Nat.le_of_ble_eq_true rfl) dX11_act_44 hf (fun hf => ?_)
            refine g_iload_n (pc := 45) C 3 dX11_act_45 rfl rfl ?_
            refine g_iadd (pc := 46) C dX11_act_46 ?_
            refine g_sipush (pc := 47) C dX11_act_47 (by decide) ?_
            refine g_icmp_ler (pc := 50) C (tgt := 55) dX11_act_50 (by decide) (by decide) hf (fun hf => ?_) (fun hf => ?_)
            · refine g_bipush (pc := 55) C dX11_act_55 (by decide) ?_
              refine g_iload_n (pc := 57) C 1 dX11_act_57 rfl rfl ?_
              refine g_imul (pc := 58) C dX11_act_58 ?_
              refine g_aload_n (pc := 59) C 0 dX11_act_59 rfl rfl ?_
              refine g_get (pc := 60) C zf_X11_20 0 rfl rfl dX11_act_60 ?_
              refine g_iload_n (pc := 63) C 1 dX11_act_63 rfl rfl ?_
              refine g_iald (pc := 64) C (N := 4) 1 rfl rfl (Nat.le_of_ble_eq_true rfl) dX11_act_64 hf (fun hf => ?_)
              refine g_iadd (pc := 65) C dX11_act_65 ?_
              refine g_istore (pc := 66) C (lv' := [(5, .int (zI ((60 * v1) + (mo_acts v1.toNat)))), (0, .ref (aMo 0)), (1, .int (zI v1)), (2, .int (zI v2)), (3, .int (zI v3)), (4, .int (zI v4))]) dX11_act_66 (Nat.le_of_ble_eq_true rfl) rfl ?_
              refine g_aload_n (pc := 68) C 1 dX11_act_68 rfl rfl ?_
              refine g_get (pc := 69) C zf_X11_26 0 rfl rfl dX11_act_69 ?_
              refine g_iload (pc := 72) C 0 dX11_act_72 rfl ?_
              refine g_iload_n (pc := 74) C 3 dX11_act_74 rfl rfl ?_
              refine g_iast (pc := 75) C (N := 240) (ws' := [((aMo 0), .inr (11, [.ref (aMo 1), .int (zI mo_taped), .ref (aMo 3), .ref (aMo 4), .ref (aMo 5), .ref (aMo 6), .ref (aMo 7), .ref (aMo 8), .ref (aMo 9), .ref (aMo 10), .ref (aMo 11), .ref (aMo 12), .ref (aMo 13), .ref (aMo 14), .ref (aMo 15), .ref (aMo 16), .int (zI mo_size), .int (zI mo_runs), .ref (aMo 19), .ref (aMo 20), .ref (aMo 21), .int (zI mo_found), .int (zI mo_counted), .int (zI mo_isParted), .ref (aMo 25), .ref (aMo 26), .ref (aMo 27), .ref (aMo 28), .ref (aMo 29), .int (zI mo_maybes), .int (zI mo_days), .int (zI mo_over2), .int (zI mo_longer), .ref (aMo 34)])), ((aMo 5), .inl (ca 0, 4, .inl (zA mo_acts))), ((aMo 6), .inl (ca 0, 4, .inl (zA mo_minutes))), ((aMo 7), .inl (ca 0, 240, .inl (zA (zU mo_kindOf ((60 * v1) + (mo_acts v1.toNat)).toNat v2)))), ((aMo 8), .inl (ca 0, 240, .inl (zA mo_lengthOf))), ((aMo 9), .inl (ca 0, 240, .inl (zA mo_vehicleOf)))]) 3 rfl rfl (Nat.le_of_ble_eq_true rfl) rfl dX11_act_75 hf (fun hf => ?_)
              refine g_aload_n (pc := 76) C 1 dX11_act_76 rfl rfl ?_
              refine g_get (pc := 77) C zf_X11_29 0 rfl rfl dX11_act_77 ?_
              refine g_iload (pc := 80) C 0 dX11_act_80 rfl ?_
              refine g_iload_n (pc := 82) C 4 dX11_act_82 rfl rfl ?_
              refine g_iast (pc := 83) C (N := 240) (ws' := [((aMo 0), .inr (11, [.ref (aMo 1), .int (zI mo_taped), .ref (aMo 3), .ref (aMo 4), .ref (aMo 5), .ref (aMo 6), .ref (aMo 7), .ref (aMo 8), .ref (aMo 9), .ref (aMo 10), .ref (aMo 11), .ref (aMo 12), .ref (aMo 13), .ref (aMo 14), .ref (aMo 15), .ref (aMo 16), .int (zI mo_size), .int (zI mo_runs), .ref (aMo 19), .ref (aMo 20), .ref (aMo 21), .int (zI mo_found), .int (zI mo_counted), .int (zI mo_isParted), .ref (aMo 25), .ref (aMo 26), .ref (aMo 27), .ref (aMo 28), .ref (aMo 29), .int (zI mo_maybes), .int (zI mo_days), .int (zI mo_over2), .int (zI mo_longer), .ref (aMo 34)])), ((aMo 5), .inl (ca 0, 4, .inl (zA mo_acts))), ((aMo 6), .inl (ca 0, 4, .inl (zA mo_minutes))), ((aMo 7), .inl (ca 0, 240, .inl (zA (zU mo_kindOf ((60 * v1) + (mo_acts v1.toNat)).toNat v2)))), ((aMo 8), .inl (ca 0, 240, .inl (zA (zU mo_lengthOf ((60 * v1) + (mo_acts v1.toNat)).toNat v3)))), ((aMo 9), .inl (ca 0, 240, .inl (zA mo_vehicleOf)))]) 4 rfl rfl (Nat.le_of_ble_eq_true rfl) rfl dX11_act_83 hf (fun hf => ?_)
              refine g_aload_n (pc := 84) C 1 dX11_act_84 rfl rfl ?_
              refine g_get (pc := 85) C zf_X11_32 0 rfl rfl dX11_act_85 ?_
              refine g_iload (pc := 88) C 0 dX11_act_88 rfl ?_
              refine g_iload_n (pc := 90) C 3 dX11_act_90 rfl rfl ?_
              refine g_if_ne (pc := 91) C (tgt := 99) dX11_act_91 (by decide) hf (fun hf => ?_) (fun hf => ?_)
              · refine g_iconst (pc := 99) C dX11_act_99 ?_
                refine g_sub [0, 1, 2, 3, 4, 5] [1, 2, 4] (by decide) rfl rfl rfl ?_
                exact H100 _ _ _ _ _ _ _ hf
              · refine g_iload (pc := 94) C 5 dX11_act_94 rfl ?_
                refine g_goto (pc := 96) C (tgt := 100) dX11_act_96 (by decide) ?_
                refine g_sub [0, 1, 2, 3, 4, 5] [1, 2, 4] (by decide) rfl rfl rfl ?_
                exact H100 _ _ _ _ _ _ _ hf
            · refine g_sub [0, 1, 2, 3, 4, 5] [] (by decide) rfl rfl rfl ?_
              exact H53 _ _ _ _ _ hf
set_option maxRecDepth 100000 in
theorem kX11_isOnTrip (l : Launch) (D : va_G) (ca : Nat → ClassId) (aMo : Nat → Nat) (mo_taped : Int) (mo_trips : Nat → Int) (mo_tripFrom : Nat → Int) (mo_tripTo : Nat → Int) (mo_size : Int) (mo_runs : Int) (mo_found : Int) (mo_counted : Int) (mo_isParted : Int) (mo_maybes : Int) (mo_days : Int) (mo_over2 : Int) (mo_longer : Int) (v1 : Int) (v2 : Int) (r_o : Int)
    (hf : fX11_isOnTrip v1 v2 mo_trips mo_tripFrom mo_tripTo = some r_o) : Zc l D ca yX11_isOnTrip cX11_isOnTrip 4 (some .boolean) { frames := 0, cells := 0, slots := 0, locals := 0 } [.ref (aMo 0), .int (zI v1), .int (zI v2)] [((aMo 0), .inr (11, [.ref (aMo 1), .int (zI mo_taped), .ref (aMo 3), .ref (aMo 4), .ref (aMo 5), .ref (aMo 6), .ref (aMo 7), .ref (aMo 8), .ref (aMo 9), .ref (aMo 10), .ref (aMo 11), .ref (aMo 12), .ref (aMo 13), .ref (aMo 14), .ref (aMo 15), .ref (aMo 16), .int (zI mo_size), .int (zI mo_runs), .ref (aMo 19), .ref (aMo 20), .ref (aMo 21), .int (zI mo_found), .int (zI mo_counted), .int (zI mo_isParted), .ref (aMo 25), .ref (aMo 26), .ref (aMo 27), .ref (aMo 28), .ref (aMo 29), .int (zI mo_maybes), .int (zI mo_days), .int (zI mo_over2), .int (zI mo_longer), .ref (aMo 34)])), ((aMo 10), .inl (ca 0, 2, .inl (zA mo_trips))), ((aMo 11), .inl (ca 0, 40, .inl (zA mo_tripFrom))), ((aMo 12), .inl (ca 0, 40, .inl (zA mo_tripTo)))] (some (.int (zI r_o))) (fun _ => [((aMo 0), .inr (11, [.ref (aMo 1), .int (zI mo_taped), .ref (aMo 3), .ref (aMo 4), .ref (aMo 5), .ref (aMo 6), .ref (aMo 7), .ref (aMo 8), .ref (aMo 9), .ref (aMo 10), .ref (aMo 11), .ref (aMo 12), .ref (aMo 13), .ref (aMo 14), .ref (aMo 15), .ref (aMo 16), .int (zI mo_size), .int (zI mo_runs), .ref (aMo 19), .ref (aMo 20), .ref (aMo 21), .int (zI mo_found), .int (zI mo_counted), .int (zI mo_isParted), .ref (aMo 25), .ref (aMo 26), .ref (aMo 27), .ref (aMo 28), .ref (aMo 29), .int (zI mo_maybes), .int (zI mo_days), .int (zI mo_over2), .int (zI mo_longer), .ref (aMo 34)])), ((aMo 10), .inl (ca 0, 2, .inl (zA mo_trips))), ((aMo 11), .inl (ca 0, 40, .inl (zA mo_tripFrom))), ((aMo 12), .inl (ca 0, 40, .inl (zA mo_tripTo)))]) := by
  refine ctr_of (lv := [(0, .ref (aMo 0)), (1, .int (zI v1)), (2, .int (zI v2))]) (by decide +kernel) (Nat.le_of_ble_eq_true rfl) rfl (fun Γ hl0 C E hnm => ?_)
  have H5 : ∀  (n5 : Nat) (v3 : Int), zlp (fX11_isOnTrip_5 v1 v2 mo_trips mo_tripFrom mo_tripTo) n5 v3 = some r_o → Zd D Γ 0 0 [((aMo 0), .inr (11, [.ref (aMo 1), .int (zI mo_taped), .ref (aMo 3), .ref (aMo 4), .ref (aMo 5), .ref (aMo 6), .ref (aMo 7), .ref (aMo 8), .ref (aMo 9), .ref (aMo 10), .ref (aMo 11), .ref (aMo 12), .ref (aMo 13), .ref (aMo 14), .ref (aMo 15), .ref (aMo 16), .int (zI mo_size), .int (zI mo_runs), .ref (aMo 19), .ref (aMo 20), .ref (aMo 21), .int (zI mo_found), .int (zI mo_counted), .int (zI mo_isParted), .ref (aMo 25), .ref (aMo 26), .ref (aMo 27), .ref (aMo 28), .ref (aMo 29), .int (zI mo_maybes), .int (zI mo_days), .int (zI mo_over2), .int (zI mo_longer), .ref (aMo 34)])), ((aMo 10), .inl (ca 0, 2, .inl (zA mo_trips))), ((aMo 11), .inl (ca 0, 40, .inl (zA mo_tripFrom))), ((aMo 12), .inl (ca 0, 40, .inl (zA mo_tripTo)))] 5 [(0, .ref (aMo 0)), (1, .int (zI v1)), (2, .int (zI v2)), (3, .int (zI v3))] [] := by
    intro n5
    induction n5 with
    | zero =>
      intro v3 hf
      exact zno hf
    | succ n5 ih5 =>
      have H42 : ∀ (v3 : Int), fX11_isOnTrip_42 (zlp (fX11_isOnTrip_5 v1 v2 mo_trips mo_tripFrom mo_tripTo) n5) v3 = some r_o → Zd D Γ 0 0 [((aMo 0), .inr (11, [.ref (aMo 1), .int (zI mo_taped), .ref (aMo 3), .ref (aMo 4), .ref (aMo 5), .ref (aMo 6), .ref (aMo 7), .ref (aMo 8), .ref (aMo 9), .ref (aMo 10), .ref (aMo 11), .ref (aMo 12), .ref (aMo 13), .ref (aMo 14), .ref (aMo 15), .ref (aMo 16), .int (zI mo_size), .int (zI mo_runs), .ref (aMo 19), .ref (aMo 20), .ref (aMo 21), .int (zI mo_found), .int (zI mo_counted), .int (zI mo_isParted), .ref (aMo 25), .ref (aMo 26), .ref (aMo 27), .ref (aMo 28), .ref (aMo 29), .int (zI mo_maybes), .int (zI mo_days), .int (zI mo_over2), .int (zI mo_longer), .ref (aMo 34)])), ((aMo 10), .inl (ca 0, 2, .inl (zA mo_trips))), ((aMo 11), .inl (ca 0, 40, .inl (zA mo_tripFrom))), ((aMo 12), .inl (ca 0, 40, .inl (zA mo_tripTo)))] 42 [(0, .ref (aMo 0)), (1, .int (zI v1)), (2, .int (zI v2)), (3, .int (zI v3))] [] := by
        intro v3 hf
        unfold fX11_isOnTrip_42 at hf
        refine g_iinc (pc := 42) C 3 (lv' := [(3, .int (zI (v3 + 1))), (0, .ref (aMo 0)), (1, .int (zI v1)), (2, .int (zI v2))]) dX11_isOnTrip_42 rfl (Nat.le_of_ble_eq_true rfl) rfl ?_
        refine g_goto (pc := 45) C (tgt := 5) dX11_isOnTrip_45 (by decide) ?_
        refine g_sub [0, 1, 2, 3] [1, 2, 3, 0] (by decide) rfl rfl rfl ?_
        exact ih5 _ hf
      intro v3 hf
      rw [zlp_s] at hf
      unfold fX11_isOnTrip_5 at hf
      refine g_iload_n (pc := 5) C 3 dX11_isOnTrip_5 rfl rfl ?_
      refine g_bipush (pc := 6) C dX11_isOnTrip_6 (by decide) ?_
      refine g_iload_n (pc := 8) C 1 dX11_isOnTrip_8 rfl rfl ?_
      refine g_imul (pc := 9) C dX11_isOnTrip_9 ?_
      refine g_aload_n (pc := 10) C 0 dX11_isOnTrip_10 rfl rfl ?_
      refine g_get (pc := 11) C zf_X11_35 0 rfl rfl dX11_isOnTrip_11 ?_
      refine g_iload_n (pc := 14) C 1 dX11_isOnTrip_14 rfl rfl ?_
      refine g_iald (pc := 15) C (N := 2) 1 rfl rfl (Nat.le_of_ble_eq_true rfl) dX11_isOnTrip_15 hf (fun hf => ?_)
      refine g_iadd (pc := 16) C dX11_isOnTrip_16 ?_
      refine g_icmp_ge (pc := 17) C (tgt := 48) dX11_isOnTrip_17 (by decide) hf (fun hf => ?_) (fun hf => ?_)
      · refine g_iconst (pc := 48) C dX11_isOnTrip_48 ?_
        cases hf
        exact g_zret (pc := 49) C E (by decide) (fun _ => 0) [0, 1, 2, 3] (by decide) rfl rfl (Nat.le_refl _) (Nat.le_refl _) dX11_isOnTrip_49
      · refine g_iload_n (pc := 20) C 2 dX11_isOnTrip_20 rfl rfl ?_
        refine g_aload_n (pc := 21) C 0 dX11_isOnTrip_21 rfl rfl ?_
        refine g_get (pc := 22) C zf_X11_38 0 rfl rfl dX11_isOnTrip_22 ?_
        refine g_iload_n (pc := 25) C 3 dX11_isOnTrip_25 rfl rfl ?_
        refine g_iald (pc := 26) C (N := 40) 2 rfl rfl (Nat.le_of_ble_eq_true rfl) dX11_isOnTrip_26 hf (fun hf => ?_)
        refine g_icmp_lt (pc := 27) C (tgt := 42) dX11_isOnTrip_27 (by decide) hf (fun hf => ?_) (fun hf => ?_)
        · exact H42 _ hf
        · refine g_iload_n (pc := 30) C 2 dX11_isOnTrip_30 rfl rfl ?_
          refine g_aload_n (pc := 31) C 0 dX11_isOnTrip_31 rfl rfl ?_
          refine g_get (pc := 32) C zf_X11_41 0 rfl rfl dX11_isOnTrip_32 ?_
          refine g_iload_n (pc := 35) C 3 dX11_isOnTrip_35 rfl rfl ?_
          refine g_iald (pc := 36) C (N := 40) 3 rfl rfl (Nat.le_of_ble_eq_true rfl) dX11_isOnTrip_36 hf (fun hf => ?_)
          refine g_icmp_ge (pc := 37) C (tgt := 42) dX11_isOnTrip_37 (by decide) hf (fun hf => ?_) (fun hf => ?_)
          · exact H42 _ hf
          · refine g_iconst (pc := 40) C dX11_isOnTrip_40 ?_
            cases hf
            exact g_zret (pc := 41) C E (by decide) (fun _ => 0) [0, 1, 2, 3] (by decide) rfl rfl (Nat.le_refl _) (Nat.le_refl _) dX11_isOnTrip_41
  unfold fX11_isOnTrip at hf
  refine g_bipush (pc := 0) C dX11_isOnTrip_0 (by decide) ?_
  refine g_iload_n (pc := 2) C 1 dX11_isOnTrip_2 rfl rfl ?_
  refine g_imul (pc := 3) C dX11_isOnTrip_3 ?_
  refine g_istore_n (pc := 4) C (lv' := [(3, .int (zI (20 * v1))), (0, .ref (aMo 0)), (1, .int (zI v1)), (2, .int (zI v2))]) dX11_isOnTrip_4 rfl (Nat.le_of_ble_eq_true rfl) rfl ?_
  refine g_sub [0, 1, 2, 3] [1, 2, 3, 0] (by decide) rfl rfl rfl ?_
  exact H5 _ _ hf
set_option maxRecDepth 100000 in
theorem kX11_against (l : Launch) (D : va_G) (ca : Nat → ClassId) (aMo : Nat → Nat) (mo_taped : Int) (mo_acts : Nat → Int) (mo_kindOf : Nat → Int) (mo_lengthOf : Nat → Int) (mo_vehicleOf : Nat → Int) (mo_trips : Nat → Int) (mo_tripFrom : Nat → Int) (mo_tripTo : Nat → Int) (mo_size : Int) (mo_runs : Int) (mo_found : Int) (mo_counted : Int) (mo_isParted : Int) (mo_maybes : Int) (mo_days : Int) (mo_over2 : Int) (mo_longer : Int) (mo_driving : Nat → Int) (v1 : Int) (v2 : Int) (r_o : Int) (mo_driving_o : Nat → Int)
    (hf : fX11_against v1 v2 mo_acts mo_kindOf mo_lengthOf mo_vehicleOf mo_trips mo_tripFrom mo_tripTo mo_driving = some (r_o, mo_driving_o)) : Zc l D ca yX11_against cX11_against 8 (some .int) { frames := 1, cells := 0, slots := 0, locals := 23 } [.ref (aMo 0), .int (zI v1), .int (zI v2)] [((aMo 0), .inr (11, [.ref (aMo 1), .int (zI mo_taped), .ref (aMo 3), .ref (aMo 4), .ref (aMo 5), .ref (aMo 6), .ref (aMo 7), .ref (aMo 8), .ref (aMo 9), .ref (aMo 10), .ref (aMo 11), .ref (aMo 12), .ref (aMo 13), .ref (aMo 14), .ref (aMo 15), .ref (aMo 16), .int (zI mo_size), .int (zI mo_runs), .ref (aMo 19), .ref (aMo 20), .ref (aMo 21), .int (zI mo_found), .int (zI mo_counted), .int (zI mo_isParted), .ref (aMo 25), .ref (aMo 26), .ref (aMo 27), .ref (aMo 28), .ref (aMo 29), .int (zI mo_maybes), .int (zI mo_days), .int (zI mo_over2), .int (zI mo_longer), .ref (aMo 34)])), ((aMo 5), .inl (ca 0, 4, .inl (zA mo_acts))), ((aMo 7), .inl (ca 0, 240, .inl (zA mo_kindOf))), ((aMo 8), .inl (ca 0, 240, .inl (zA mo_lengthOf))), ((aMo 9), .inl (ca 0, 240, .inl (zA mo_vehicleOf))), ((aMo 10), .inl (ca 0, 2, .inl (zA mo_trips))), ((aMo 11), .inl (ca 0, 40, .inl (zA mo_tripFrom))), ((aMo 12), .inl (ca 0, 40, .inl (zA mo_tripTo))), ((aMo 34), .inl (ca 0, 20160, .inl (zA mo_driving)))] (some (.int (zI r_o))) (fun _ => [((aMo 0), .inr (11, [.ref (aMo 1), .int (zI mo_taped), .ref (aMo 3), .ref (aMo 4), .ref (aMo 5), .ref (aMo 6), .ref (aMo 7), .ref (aMo 8), .ref (aMo 9), .ref (aMo 10), .ref (aMo 11), .ref (aMo 12), .ref (aMo 13), .ref (aMo 14), .ref (aMo 15), .ref (aMo 16), .int (zI mo_size), .int (zI mo_runs), .ref (aMo 19), .ref (aMo 20), .ref (aMo 21), .int (zI mo_found), .int (zI mo_counted), .int (zI mo_isParted), .ref (aMo 25), .ref (aMo 26), .ref (aMo 27), .ref (aMo 28), .ref (aMo 29), .int (zI mo_maybes), .int (zI mo_days), .int (zI mo_over2), .int (zI mo_longer), .ref (aMo 34)])), ((aMo 5), .inl (ca 0, 4, .inl (zA mo_acts))), ((aMo 7), .inl (ca 0, 240, .inl (zA mo_kindOf))), ((aMo 8), .inl (ca 0, 240, .inl (zA mo_lengthOf))), ((aMo 9), .inl (ca 0, 240, .inl (zA mo_vehicleOf))), ((aMo 10), .inl (ca 0, 2, .inl (zA mo_trips))), ((aMo 11), .inl (ca 0, 40, .inl (zA mo_tripFrom))), ((aMo 12), .inl (ca 0, 40, .inl (zA mo_tripTo))), ((aMo 34), .inl (ca 0, 20160, .inl (zA mo_driving_o)))]) := by
  refine ctr_of (lv := [(0, .ref (aMo 0)), (1, .int (zI v1)), (2, .int (zI v2))]) (by decide +kernel) (Nat.le_of_ble_eq_true rfl) rfl (fun Γ hl0 C E hnm => ?_)
  have H18 : ∀ (mo_driving : Nat → Int), fX11_against_18 mo_driving = some (r_o, mo_driving_o) → Zd D Γ 0 0 [((aMo 0), .inr (11, [.ref (aMo 1), .int (zI mo_taped), .ref (aMo 3), .ref (aMo 4), .ref (aMo 5), .ref (aMo 6), .ref (aMo 7), .ref (aMo 8), .ref (aMo 9), .ref (aMo 10), .ref (aMo 11), .ref (aMo 12), .ref (aMo 13), .ref (aMo 14), .ref (aMo 15), .ref (aMo 16), .int (zI mo_size), .int (zI mo_runs), .ref (aMo 19), .ref (aMo 20), .ref (aMo 21), .int (zI mo_found), .int (zI mo_counted), .int (zI mo_isParted), .ref (aMo 25), .ref (aMo 26), .ref (aMo 27), .ref (aMo 28), .ref (aMo 29), .int (zI mo_maybes), .int (zI mo_days), .int (zI mo_over2), .int (zI mo_longer), .ref (aMo 34)])), ((aMo 5), .inl (ca 0, 4, .inl (zA mo_acts))), ((aMo 7), .inl (ca 0, 240, .inl (zA mo_kindOf))), ((aMo 8), .inl (ca 0, 240, .inl (zA mo_lengthOf))), ((aMo 9), .inl (ca 0, 240, .inl (zA mo_vehicleOf))), ((aMo 10), .inl (ca 0, 2, .inl (zA mo_trips))), ((aMo 11), .inl (ca 0, 40, .inl (zA mo_tripFrom))), ((aMo 12), .inl (ca 0, 40, .inl (zA mo_tripTo))), ((aMo 34), .inl (ca 0, 20160, .inl (zA mo_driving)))] 18 [] [] := by
    intro mo_driving hf
    unfold fX11_against_18 at hf
    refine g_iconst (pc := 18) C dX11_against_18 ?_
    cases hf
    exact g_iret (pc := 19) C E (fun _ => 0) [0, 1, 2, 3, 4, 5, 6, 7, 8] (by decide) rfl rfl (Nat.le_refl _) (Nat.le_refl _) dX11_against_19
  have H166 : ∀ (mo_driving : Nat → Int) (n166 : Nat) (v3 : Int) (v4 : Int), zlp (fX11_against_166 v1 v2 mo_trips mo_tripFrom mo_tripTo mo_driving) n166 (v3, v4) = some (r_o, mo_driving_o) → Zd D Γ 0 0 [((aMo 0), .inr (11, [.ref (aMo 1), .int (zI mo_taped), .ref (aMo 3), .ref (aMo 4), .ref (aMo 5), .ref (aMo 6), .ref (aMo 7), .ref (aMo 8), .ref (aMo 9), .ref (aMo 10), .ref (aMo 11), .ref (aMo 12), .ref (aMo 13), .ref (aMo 14), .ref (aMo 15), .ref (aMo 16), .int (zI mo_size), .int (zI mo_runs), .ref (aMo 19), .ref (aMo 20), .ref (aMo 21), .int (zI mo_found), .int (zI mo_counted), .int (zI mo_isParted), .ref (aMo 25), .ref (aMo 26), .ref (aMo 27), .ref (aMo 28), .ref (aMo 29), .int (zI mo_maybes), .int (zI mo_days), .int (zI mo_over2), .int (zI mo_longer), .ref (aMo 34)])), ((aMo 5), .inl (ca 0, 4, .inl (zA mo_acts))), ((aMo 7), .inl (ca 0, 240, .inl (zA mo_kindOf))), ((aMo 8), .inl (ca 0, 240, .inl (zA mo_lengthOf))), ((aMo 9), .inl (ca 0, 240, .inl (zA mo_vehicleOf))), ((aMo 10), .inl (ca 0, 2, .inl (zA mo_trips))), ((aMo 11), .inl (ca 0, 40, .inl (zA mo_tripFrom))), ((aMo 12), .inl (ca 0, 40, .inl (zA mo_tripTo))), ((aMo 34), .inl (ca 0, 20160, .inl (zA mo_driving)))] 166 [(0, .ref (aMo 0)), (1, .int (zI v1)), (2, .int (zI v2)), (3, .int (zI v3)), (4, .int (zI v4))] [] := by
    intro mo_driving
    intro n166
    induction n166 with
    | zero =>
      intro v3 v4 hf
      exact zno hf
    | succ n166 ih166 =>
      have H268 : ∀ (v4 : Int) (s0 : Int) (s1 : Int) (mo_driving : Nat → Int), fX11_against_268 (zlp (fX11_against_166 v1 v2 mo_trips mo_tripFrom mo_tripTo mo_driving) n166) v4 s0 s1 = some (r_o, mo_driving_o) → Zd D Γ 0 0 [((aMo 0), .inr (11, [.ref (aMo 1), .int (zI mo_taped), .ref (aMo 3), .ref (aMo 4), .ref (aMo 5), .ref (aMo 6), .ref (aMo 7), .ref (aMo 8), .ref (aMo 9), .ref (aMo 10), .ref (aMo 11), .ref (aMo 12), .ref (aMo 13), .ref (aMo 14), .ref (aMo 15), .ref (aMo 16), .int (zI mo_size), .int (zI mo_runs), .ref (aMo 19), .ref (aMo 20), .ref (aMo 21), .int (zI mo_found), .int (zI mo_counted), .int (zI mo_isParted), .ref (aMo 25), .ref (aMo 26), .ref (aMo 27), .ref (aMo 28), .ref (aMo 29), .int (zI mo_maybes), .int (zI mo_days), .int (zI mo_over2), .int (zI mo_longer), .ref (aMo 34)])), ((aMo 5), .inl (ca 0, 4, .inl (zA mo_acts))), ((aMo 7), .inl (ca 0, 240, .inl (zA mo_kindOf))), ((aMo 8), .inl (ca 0, 240, .inl (zA mo_lengthOf))), ((aMo 9), .inl (ca 0, 240, .inl (zA mo_vehicleOf))), ((aMo 10), .inl (ca 0, 2, .inl (zA mo_trips))), ((aMo 11), .inl (ca 0, 40, .inl (zA mo_tripFrom))), ((aMo 12), .inl (ca 0, 40, .inl (zA mo_tripTo))), ((aMo 34), .inl (ca 0, 20160, .inl (zA mo_driving)))] 268 [(0, .ref (aMo 0)), (1, .int (zI v1)), (2, .int (zI v2)), (4, .int (zI v4))] [.int (zI s1), .int (zI s0)] := by
        intro v4 s0 s1 mo_driving hf
        unfold fX11_against_268 at hf
        refine g_iadd (pc := 268) C dX11_against_268 ?_
        refine g_istore_n (pc := 269) C (lv' := [(3, .int (zI (s0 + s1))), (0, .ref (aMo 0)), (1, .int (zI v1)), (2, .int (zI v2)), (4, .int (zI v4))]) dX11_against_269 rfl (Nat.le_of_ble_eq_true rfl) rfl ?_
        refine g_iinc (pc := 270) C 4 (lv' := [(4, .int (zI (v4 + 1))), (3, .int (zI (s0 + s1))), (0, .ref (aMo 0)), (1, .int (zI v1)), (2, .int (zI v2))]) dX11_against_270 rfl (Nat.le_of_ble_eq_true rfl) rfl ?_
        refine g_goto (pc := 273) C (tgt := 166) dX11_against_273 (by decide) ?_
        refine g_sub [0, 1, 2, 3, 4, 5, 6, 7, 8] [2, 3, 4, 1, 0] (by decide) rfl rfl rfl ?_
        exact ih166 _ _ hf
      have H255 : ∀ (v3 : Int) (v4 : Int) (s0 : Int) (mo_driving : Nat → Int), fX11_against_255 (zlp (fX11_against_166 v1 v2 mo_trips mo_tripFrom mo_tripTo mo_driving) n166) v3 v4 s0 = some (r_o, mo_driving_o) → Zd D Γ 0 0 [((aMo 0), .inr (11, [.ref (aMo 1), .int (zI mo_taped), .ref (aMo 3), .ref (aMo 4), .ref (aMo 5), .ref (aMo 6), .ref (aMo 7), .ref (aMo 8), .ref (aMo 9), .ref (aMo 10), .ref (aMo 11), .ref (aMo 12), .ref (aMo 13), .ref (aMo 14), .ref (aMo 15), .ref (aMo 16), .int (zI mo_size), .int (zI mo_runs), .ref (aMo 19), .ref (aMo 20), .ref (aMo 21), .int (zI mo_found), .int (zI mo_counted), .int (zI mo_isParted), .ref (aMo 25), .ref (aMo 26), .ref (aMo 27), .ref (aMo 28), .ref (aMo 29), .int (zI mo_maybes), .int (zI mo_days), .int (zI mo_over2), .int (zI mo_longer), .ref (aMo 34)])), ((aMo 5), .inl (ca 0, 4, .inl (zA mo_acts))), ((aMo 7), .inl (ca 0, 240, .inl (zA mo_kindOf))), ((aMo 8), .inl (ca 0, 240, .inl (zA mo_lengthOf))), ((aMo 9), .inl (ca 0, 240, .inl (zA mo_vehicleOf))), ((aMo 10), .inl (ca 0, 2, .inl (zA mo_trips))), ((aMo 11), .inl (ca 0, 40, .inl (zA mo_tripFrom))), ((aMo 12), .inl (ca 0, 40, .inl (zA mo_tripTo))), ((aMo 34), .inl (ca 0, 20160, .inl (zA mo_driving)))] 255 [(0, .ref (aMo 0)), (1, .int (zI v1)), (2, .int (zI v2)), (3, .int (zI v3)), (4, .int (zI v4))] [.int (zI s0)] := by
        intro v3 v4 s0 mo_driving hf
        unfold fX11_against_255 at hf
        refine g_istore (pc := 255) C (lv' := [(5, .int (zI s0)), (0, .ref (aMo 0)), (1, .int (zI v1)), (2, .int (zI v2)), (3, .int (zI v3)), (4, .int (zI v4))]) dX11_against_255 (Nat.le_of_ble_eq_true rfl) rfl ?_
        refine g_iload_n (pc := 257) C 4 dX11_against_257 rfl rfl ?_
        refine g_iload (pc := 258) C 0 dX11_against_258 rfl ?_
        refine g_if_eq (pc := 260) C (tgt := 267) dX11_against_260 (by decide) hf (fun hf => ?_) (fun hf => ?_)
        · refine g_iconst (pc := 267) C dX11_against_267 ?_
          refine g_sub [0, 1, 2, 3, 4, 5, 6, 7, 8] [1, 2, 3, 5] (by decide) rfl rfl rfl ?_
          exact H268 _ _ _ _ hf
        · refine g_iconst (pc := 263) C dX11_against_263 ?_
          refine g_goto (pc := 264) C (tgt := 268) dX11_against_264 (by decide) ?_
          refine g_sub [0, 1, 2, 3, 4, 5, 6, 7, 8] [1, 2, 3, 5] (by decide) rfl rfl rfl ?_
          exact H268 _ _ _ _ hf
      have H226 : ∀ (v3 : Int) (v4 : Int) (mo_driving : Nat → Int), fX11_against_226 (zlp (fX11_against_166 v1 v2 mo_trips mo_tripFrom mo_tripTo mo_driving) n166) v3 v4 = some (r_o, mo_driving_o) → Zd D Γ 0 0 [((aMo 0), .inr (11, [.ref (aMo 1), .int (zI mo_taped), .ref (aMo 3), .ref (aMo 4), .ref (aMo 5), .ref (aMo 6), .ref (aMo 7), .ref (aMo 8), .ref (aMo 9), .ref (aMo 10), .ref (aMo 11), .ref (aMo 12), .ref (aMo 13), .ref (aMo 14), .ref (aMo 15), .ref (aMo 16), .int (zI mo_size), .int (zI mo_runs), .ref (aMo 19), .ref (aMo 20), .ref (aMo 21), .int (zI mo_found), .int (zI mo_counted), .int (zI mo_isParted), .ref (aMo 25), .ref (aMo 26), .ref (aMo 27), .ref (aMo 28), .ref (aMo 29), .int (zI mo_maybes), .int (zI mo_days), .int (zI mo_over2), .int (zI mo_longer), .ref (aMo 34)])), ((aMo 5), .inl (ca 0, 4, .inl (zA mo_acts))), ((aMo 7), .inl (ca 0, 240, .inl (zA mo_kindOf))), ((aMo 8), .inl (ca 0, 240, .inl (zA mo_lengthOf))), ((aMo 9), .inl (ca 0, 240, .inl (zA mo_vehicleOf))), ((aMo 10), .inl (ca 0, 2, .inl (zA mo_trips))), ((aMo 11), .inl (ca 0, 40, .inl (zA mo_tripFrom))), ((aMo 12), .inl (ca 0, 40, .inl (zA mo_tripTo))), ((aMo 34), .inl (ca 0, 20160, .inl (zA mo_driving)))] 226 [(0, .ref (aMo 0)), (1, .int (zI v1)), (2, .int (zI v2)), (3, .int (zI v3)), (4, .int (zI v4))] [] := by
        intro v3 v4 mo_driving hf
        unfold fX11_against_226 at hf
        refine g_iconst (pc := 226) C dX11_against_226 ?_
        refine g_goto (pc := 227) C (tgt := 255) dX11_against_227 (by decide) ?_
        exact H255 _ _ _ _ hf
      have H254 : ∀ (v3 : Int) (v4 : Int) (mo_driving : Nat → Int), fX11_against_254 (zlp (fX11_against_166 v1 v2 mo_trips mo_tripFrom mo_tripTo mo_driving) n166) v3 v4 = some (r_o, mo_driving_o) → Zd D Γ 0 0 [((aMo 0), .inr (11, [.ref (aMo 1), .int (zI mo_taped), .ref (aMo 3), .ref (aMo 4), .ref (aMo 5), .ref (aMo 6), .ref (aMo 7), .ref (aMo 8), .ref (aMo 9), .ref (aMo 10), .ref (aMo 11), .ref (aMo 12), .ref (aMo 13), .ref (aMo 14), .ref (aMo 15), .ref (aMo 16), .int (zI mo_size), .int (zI mo_runs), .ref (aMo 19), .ref (aMo 20), .ref (aMo 21), .int (zI mo_found), .int (zI mo_counted), .int (zI mo_isParted), .ref (aMo 25), .ref (aMo 26), .ref (aMo 27), .ref (aMo 28), .ref (aMo 29), .int (zI mo_maybes), .int (zI mo_days), .int (zI mo_over2), .int (zI mo_longer), .ref (aMo 34)])), ((aMo 5), .inl (ca 0, 4, .inl (zA mo_acts))), ((aMo 7), .inl (ca 0, 240, .inl (zA mo_kindOf))), ((aMo 8), .inl (ca 0, 240, .inl (zA mo_lengthOf))), ((aMo 9), .inl (ca 0, 240, .inl (zA mo_vehicleOf))), ((aMo 10), .inl (ca 0, 2, .inl (zA mo_trips))), ((aMo 11), .inl (ca 0, 40, .inl (zA mo_tripFrom))), ((aMo 12), .inl (ca 0, 40, .inl (zA mo_tripTo))), ((aMo 34), .inl (ca 0, 20160, .inl (zA mo_driving)))] 254 [(0, .ref (aMo 0)), (1, .int (zI v1)), (2, .int (zI v2)), (3, .int (zI v3)), (4, .int (zI v4))] [] := by
        intro v3 v4 mo_driving hf
        unfold fX11_against_254 at hf
        refine g_iconst (pc := 254) C dX11_against_254 ?_
        exact H255 _ _ _ _ hf
      intro v3 v4 hf
      rw [zlp_s] at hf
      unfold fX11_against_166 at hf
      dsimp only at hf
      refine g_iload (pc := 166) C 4 dX11_against_166 rfl ?_
      refine g_sipush (pc := 168) C dX11_against_168 (by decide) ?_
      refine g_icmp_ger (pc := 171) C (tgt := 276) dX11_against_171 (by decide) (by decide) hf (fun hf => ?_) (fun hf => ?_)
      · refine g_iload_n (pc := 276) C 3 dX11_against_276 rfl rfl ?_
        cases hf
        exact g_iret (pc := 277) C E (fun _ => 0) [0, 1, 2, 3, 4, 5, 6, 7, 8] (by decide) rfl rfl (Nat.le_refl _) (Nat.le_refl _) dX11_against_277
      · refine g_iload_n (pc := 174) C 2 dX11_against_174 rfl rfl ?_
        refine g_iconst (pc := 175) C dX11_against_175 ?_
        refine g_icmp_ner (pc := 176) C (tgt := 198) dX11_against_176 (by decide) (by decide) hf (fun hf => ?_) (fun hf => ?_)
        · refine g_iload_n (pc := 198) C 2 dX11_against_198 rfl rfl ?_
          refine g_if_ne (pc := 199) C (tgt := 230) dX11_against_199 (by decide) hf (fun hf => ?_) (fun hf => ?_)
          · refine g_aload_n (pc := 230) C 0 dX11_against_230 rfl rfl ?_
            refine g_get (pc := 231) C zf_X11_81 0 rfl rfl dX11_against_231 ?_
            refine g_iload (pc := 234) C 4 dX11_against_234 rfl ?_
            refine g_iald (pc := 236) C (N := 20160) 8 rfl rfl (Nat.le_of_ble_eq_true rfl) dX11_against_236 hf (fun hf => ?_)
            refine g_if_le (pc := 237) C (tgt := 254) dX11_against_237 (by decide) hf (fun hf => ?_) (fun hf => ?_)
            · exact H254 _ _ _ hf
            · refine g_aload_n (pc := 240) C 0 dX11_against_240 rfl rfl ?_
              refine g_iload_n (pc := 241) C 1 dX11_against_241 rfl rfl ?_
              refine g_iload (pc := 242) C 4 dX11_against_242 rfl ?_
              obtain ⟨r_244, hc_244, hf⟩ := Option.bind_eq_some_iff.mp hf
              refine g_callV (pc := 244) C hl0 (wr := [((aMo 5), .inl (ca 0, 4, .inl (zA mo_acts))), ((aMo 7), .inl (ca 0, 240, .inl (zA mo_kindOf))), ((aMo 8), .inl (ca 0, 240, .inl (zA mo_lengthOf))), ((aMo 9), .inl (ca 0, 240, .inl (zA mo_vehicleOf))), ((aMo 34), .inl (ca 0, 20160, .inl (zA mo_driving)))]) (k' := 0) (n' := 0) (ws' := fun _ => [((aMo 5), .inl (ca 0, 4, .inl (zA mo_acts))), ((aMo 7), .inl (ca 0, 240, .inl (zA mo_kindOf))), ((aMo 8), .inl (ca 0, 240, .inl (zA mo_lengthOf))), ((aMo 9), .inl (ca 0, 240, .inl (zA mo_vehicleOf))), ((aMo 34), .inl (ca 0, 20160, .inl (zA mo_driving))), ((aMo 0), .inr (11, [.ref (aMo 1), .int (zI mo_taped), .ref (aMo 3), .ref (aMo 4), .ref (aMo 5), .ref (aMo 6), .ref (aMo 7), .ref (aMo 8), .ref (aMo 9), .ref (aMo 10), .ref (aMo 11), .ref (aMo 12), .ref (aMo 13), .ref (aMo 14), .ref (aMo 15), .ref (aMo 16), .int (zI mo_size), .int (zI mo_runs), .ref (aMo 19), .ref (aMo 20), .ref (aMo 21), .int (zI mo_found), .int (zI mo_counted), .int (zI mo_isParted), .ref (aMo 25), .ref (aMo 26), .ref (aMo 27), .ref (aMo 28), .ref (aMo 29), .int (zI mo_maybes), .int (zI mo_days), .int (zI mo_over2), .int (zI mo_longer), .ref (aMo 34)])), ((aMo 10), .inl (ca 0, 2, .inl (zA mo_trips))), ((aMo 11), .inl (ca 0, 40, .inl (zA mo_tripFrom))), ((aMo 12), .inl (ca 0, 40, .inl (zA mo_tripTo)))]) (st' := [.int (zI r_244)]) (kX11_isOnTrip l D ca aMo mo_taped mo_trips mo_tripFrom mo_tripTo mo_size mo_runs mo_found mo_counted mo_isParted mo_maybes mo_days mo_over2 mo_longer v1 v4 r_244 hc_244) wml_RX11_232 wim_X11_isOnTrip wse_X11_isOnTrip win_RX11 wco_X11_isOnTrip (nA := 2) rfl (by decide +kernel)  ⟨(Nat.le_of_ble_eq_true rfl), (Nat.le_of_ble_eq_true rfl)⟩ (Nat.le_refl _) (Nat.le_refl _) rfl (by decide) dX11_against_244 0 11 rfl rfl rfl [0, 5, 6, 7] [1, 2, 3, 4, 8] rfl rfl rfl (by decide) (by decide) (by decide) rfl rfl (fun _ => rfl) rfl (fun _ => ?_)
              refine g_if_ne (pc := 247) C (tgt := 254) dX11_against_247 (by decide) hf (fun hf => ?_) (fun hf => ?_)
              · refine g_sub [5, 0, 1, 2, 3, 6, 7, 8, 4] [0, 1, 2, 3, 4] (by decide) rfl rfl rfl ?_
                exact H254 _ _ _ hf
              · refine g_iconst (pc := 250) C dX11_against_250 ?_
                refine g_goto (pc := 251) C (tgt := 255) dX11_against_251 (by decide) ?_
                refine g_sub [5, 0, 1, 2, 3, 6, 7, 8, 4] [0, 1, 2, 3, 4] (by decide) rfl rfl rfl ?_
                exact H255 _ _ _ _ hf
          · refine g_aload_n (pc := 202) C 0 dX11_against_202 rfl rfl ?_
            refine g_get (pc := 203) C zf_X11_81 0 rfl rfl dX11_against_203 ?_
            refine g_iload (pc := 206) C 4 dX11_against_206 rfl ?_
            refine g_iald (pc := 208) C (N := 20160) 8 rfl rfl (Nat.le_of_ble_eq_true rfl) dX11_against_208 hf (fun hf => ?_)
            refine g_if_ne (pc := 209) C (tgt := 226) dX11_against_209 (by decide) hf (fun hf => ?_) (fun hf => ?_)
            · exact H226 _ _ _ hf
            · refine g_aload_n (pc := 212) C 0 dX11_against_212 rfl rfl ?_
              refine g_iload_n (pc := 213) C 1 dX11_against_213 rfl rfl ?_
              refine g_iload (pc := 214) C 4 dX11_against_214 rfl ?_
              obtain ⟨r_216, hc_216, hf⟩ := Option.bind_eq_some_iff.mp hf
              refine g_callV (pc := 216) C hl0 (wr := [((aMo 5), .inl (ca 0, 4, .inl (zA mo_acts))), ((aMo 7), .inl (ca 0, 240, .inl (zA mo_kindOf))), ((aMo 8), .inl (ca 0, 240, .inl (zA mo_lengthOf))), ((aMo 9), .inl (ca 0, 240, .inl (zA mo_vehicleOf))), ((aMo 34), .inl (ca 0, 20160, .inl (zA mo_driving)))]) (k' := 0) (n' := 0) (ws' := fun _ => [((aMo 5), .inl (ca 0, 4, .inl (zA mo_acts))), ((aMo 7), .inl (ca 0, 240, .inl (zA mo_kindOf))), ((aMo 8), .inl (ca 0, 240, .inl (zA mo_lengthOf))), ((aMo 9), .inl (ca 0, 240, .inl (zA mo_vehicleOf))), ((aMo 34), .inl (ca 0, 20160, .inl (zA mo_driving))), ((aMo 0), .inr (11, [.ref (aMo 1), .int (zI mo_taped), .ref (aMo 3), .ref (aMo 4), .ref (aMo 5), .ref (aMo 6), .ref (aMo 7), .ref (aMo 8), .ref (aMo 9), .ref (aMo 10), .ref (aMo 11), .ref (aMo 12), .ref (aMo 13), .ref (aMo 14), .ref (aMo 15), .ref (aMo 16), .int (zI mo_size), .int (zI mo_runs), .ref (aMo 19), .ref (aMo 20), .ref (aMo 21), .int (zI mo_found), .int (zI mo_counted), .int (zI mo_isParted), .ref (aMo 25), .ref (aMo 26), .ref (aMo 27), .ref (aMo 28), .ref (aMo 29), .int (zI mo_maybes), .int (zI mo_days), .int (zI mo_over2), .int (zI mo_longer), .ref (aMo 34)])), ((aMo 10), .inl (ca 0, 2, .inl (zA mo_trips))), ((aMo 11), .inl (ca 0, 40, .inl (zA mo_tripFrom))), ((aMo 12), .inl (ca 0, 40, .inl (zA mo_tripTo)))]) (st' := [.int (zI r_216)]) (kX11_isOnTrip l D ca aMo mo_taped mo_trips mo_tripFrom mo_tripTo mo_size mo_runs mo_found mo_counted mo_isParted mo_maybes mo_days mo_over2 mo_longer v1 v4 r_216 hc_216) wml_RX11_232 wim_X11_isOnTrip wse_X11_isOnTrip win_RX11 wco_X11_isOnTrip (nA := 2) rfl (by decide +kernel)  ⟨(Nat.le_of_ble_eq_true rfl), (Nat.le_of_ble_eq_true rfl)⟩ (Nat.le_refl _) (Nat.le_refl _) rfl (by decide) dX11_against_216 0 11 rfl rfl rfl [0, 5, 6, 7] [1, 2, 3, 4, 8] rfl rfl rfl (by decide) (by decide) (by decide) rfl rfl (fun _ => rfl) rfl (fun _ => ?_)
              refine g_if_eq (pc := 219) C (tgt := 226) dX11_against_219 (by decide) hf (fun hf => ?_) (fun hf => ?_)
              · refine g_sub [5, 0, 1, 2, 3, 6, 7, 8, 4] [0, 1, 2, 3, 4] (by decide) rfl rfl rfl ?_
                exact H226 _ _ _ hf
              · refine g_iconst (pc := 222) C dX11_against_222 ?_
                refine g_goto (pc := 223) C (tgt := 255) dX11_against_223 (by decide) ?_
                refine g_sub [5, 0, 1, 2, 3, 6, 7, 8, 4] [0, 1, 2, 3, 4] (by decide) rfl rfl rfl ?_
                exact H255 _ _ _ _ hf
        · refine g_aload_n (pc := 179) C 0 dX11_against_179 rfl rfl ?_
          refine g_get (pc := 180) C zf_X11_81 0 rfl rfl dX11_against_180 ?_
          refine g_iload (pc := 183) C 4 dX11_against_183 rfl ?_
          refine g_iald (pc := 185) C (N := 20160) 8 rfl rfl (Nat.le_of_ble_eq_true rfl) dX11_against_185 hf (fun hf => ?_)
          refine g_iconst (pc := 186) C dX11_against_186 ?_
          refine g_icmp_ltr (pc := 187) C (tgt := 194) dX11_against_187 (by decide) (by decide) hf (fun hf => ?_) (fun hf => ?_)
          · refine g_iconst (pc := 194) C dX11_against_194 ?_
            refine g_goto (pc := 195) C (tgt := 255) dX11_against_195 (by decide) ?_
            exact H255 _ _ _ _ hf
          · refine g_iconst (pc := 190) C dX11_against_190 ?_
            refine g_goto (pc := 191) C (tgt := 255) dX11_against_191 (by decide) ?_
            exact H255 _ _ _ _ hf
  have H44 : ∀  (n44 : Nat) (v3 : Int) (mo_driving : Nat → Int), zlp (fX11_against_44 v1 v2 mo_acts mo_kindOf mo_lengthOf mo_vehicleOf mo_trips mo_tripFrom mo_tripTo) n44 (v3, mo_driving) = some (r_o, mo_driving_o) → Zd D Γ 0 0 [((aMo 0), .inr (11, [.ref (aMo 1), .int (zI mo_taped), .ref (aMo 3), .ref (aMo 4), .ref (aMo 5), .ref (aMo 6), .ref (aMo 7), .ref (aMo 8), .ref (aMo 9), .ref (aMo 10), .ref (aMo 11), .ref (aMo 12), .ref (aMo 13), .ref (aMo 14), .ref (aMo 15), .ref (aMo 16), .int (zI mo_size), .int (zI mo_runs), .ref (aMo 19), .ref (aMo 20), .ref (aMo 21), .int (zI mo_found), .int (zI mo_counted), .int (zI mo_isParted), .ref (aMo 25), .ref (aMo 26), .ref (aMo 27), .ref (aMo 28), .ref (aMo 29), .int (zI mo_maybes), .int (zI mo_days), .int (zI mo_over2), .int (zI mo_longer), .ref (aMo 34)])), ((aMo 5), .inl (ca 0, 4, .inl (zA mo_acts))), ((aMo 7), .inl (ca 0, 240, .inl (zA mo_kindOf))), ((aMo 8), .inl (ca 0, 240, .inl (zA mo_lengthOf))), ((aMo 9), .inl (ca 0, 240, .inl (zA mo_vehicleOf))), ((aMo 10), .inl (ca 0, 2, .inl (zA mo_trips))), ((aMo 11), .inl (ca 0, 40, .inl (zA mo_tripFrom))), ((aMo 12), .inl (ca 0, 40, .inl (zA mo_tripTo))), ((aMo 34), .inl (ca 0, 20160, .inl (zA mo_driving)))] 44 [(0, .ref (aMo 0)), (1, .int (zI v1)), (2, .int (zI v2)), (3, .int (zI v3))] [] := by
    intro n44
    induction n44 with
    | zero =>
      intro v3 mo_driving hf
      exact zno hf
    | succ n44 ih44 =>
      have H55 : ∀ (v3 : Int) (n55 : Nat) (v4 : Int) (v5 : Int) (mo_driving : Nat → Int), zlp (fX11_against_55 (zlp (fX11_against_44 v1 v2 mo_acts mo_kindOf mo_lengthOf mo_vehicleOf mo_trips mo_tripFrom mo_tripTo) n44) v1 v3 mo_acts mo_kindOf mo_lengthOf mo_vehicleOf) n55 (v4, v5, mo_driving) = some (r_o, mo_driving_o) → Zd D Γ 0 0 [((aMo 0), .inr (11, [.ref (aMo 1), .int (zI mo_taped), .ref (aMo 3), .ref (aMo 4), .ref (aMo 5), .ref (aMo 6), .ref (aMo 7), .ref (aMo 8), .ref (aMo 9), .ref (aMo 10), .ref (aMo 11), .ref (aMo 12), .ref (aMo 13), .ref (aMo 14), .ref (aMo 15), .ref (aMo 16), .int (zI mo_size), .int (zI mo_runs), .ref (aMo 19), .ref (aMo 20), .ref (aMo 21), .int (zI mo_found), .int (zI mo_counted), .int (zI mo_isParted), .ref (aMo 25), .ref (aMo 26), .ref (aMo 27), .ref (aMo 28), .ref (aMo 29), .int (zI mo_maybes), .int (zI mo_days), .int (zI mo_over2), .int (zI mo_longer), .ref (aMo 34)])), ((aMo 5), .inl (ca 0, 4, .inl (zA mo_acts))), ((aMo 7), .inl (ca 0, 240, .inl (zA mo_kindOf))), ((aMo 8), .inl (ca 0, 240, .inl (zA mo_lengthOf))), ((aMo 9), .inl (ca 0, 240, .inl (zA mo_vehicleOf))), ((aMo 10), .inl (ca 0, 2, .inl (zA mo_trips))), ((aMo 11), .inl (ca 0, 40, .inl (zA mo_tripFrom))), ((aMo 12), .inl (ca 0, 40, .inl (zA mo_tripTo))), ((aMo 34), .inl (ca 0, 20160, .inl (zA mo_driving)))] 55 [(0, .ref (aMo 0)), (1, .int (zI v1)), (2, .int (zI v2)), (3, .int (zI v3)), (4, .int (zI v4)), (5, .int (zI v5))] [] := by
        intro v3
        intro n55
        induction n55 with
        | zero =>
          intro v4 v5 mo_driving hf
          exact zno hf
        | succ n55 ih55 =>
          have H137 : ∀ (v3 : Int) (v4 : Int) (v5 : Int) (v6 : Int) (mo_driving : Nat → Int), fX11_against_137 (zlp (fX11_against_55 (zlp (fX11_against_44 v1 v2 mo_acts mo_kindOf mo_lengthOf mo_vehicleOf mo_trips mo_tripFrom mo_tripTo) n44) v1 v3 mo_acts mo_kindOf mo_lengthOf mo_vehicleOf) n55) v4 v5 v6 mo_lengthOf mo_driving = some (r_o, mo_driving_o) → Zd D Γ 0 0 [((aMo 0), .inr (11, [.ref (aMo 1), .int (zI mo_taped), .ref (aMo 3), .ref (aMo 4), .ref (aMo 5), .ref (aMo 6), .ref (aMo 7), .ref (aMo 8), .ref (aMo 9), .ref (aMo 10), .ref (aMo 11), .ref (aMo 12), .ref (aMo 13), .ref (aMo 14), .ref (aMo 15), .ref (aMo 16), .int (zI mo_size), .int (zI mo_runs), .ref (aMo 19), .ref (aMo 20), .ref (aMo 21), .int (zI mo_found), .int (zI mo_counted), .int (zI mo_isParted), .ref (aMo 25), .ref (aMo 26), .ref (aMo 27), .ref (aMo 28), .ref (aMo 29), .int (zI mo_maybes), .int (zI mo_days), .int (zI mo_over2), .int (zI mo_longer), .ref (aMo 34)])), ((aMo 5), .inl (ca 0, 4, .inl (zA mo_acts))), ((aMo 7), .inl (ca 0, 240, .inl (zA mo_kindOf))), ((aMo 8), .inl (ca 0, 240, .inl (zA mo_lengthOf))), ((aMo 9), .inl (ca 0, 240, .inl (zA mo_vehicleOf))), ((aMo 10), .inl (ca 0, 2, .inl (zA mo_trips))), ((aMo 11), .inl (ca 0, 40, .inl (zA mo_tripFrom))), ((aMo 12), .inl (ca 0, 40, .inl (zA mo_tripTo))), ((aMo 34), .inl (ca 0, 20160, .inl (zA mo_driving)))] 137 [(0, .ref (aMo 0)), (1, .int (zI v1)), (2, .int (zI v2)), (3, .int (zI v3)), (4, .int (zI v4)), (5, .int (zI v5)), (6, .int (zI v6))] [] := by
            intro v3 v4 v5 v6 mo_driving hf
            unfold fX11_against_137 at hf
            refine g_iload (pc := 137) C 4 dX11_against_137 rfl ?_
            refine g_aload_n (pc := 139) C 0 dX11_against_139 rfl rfl ?_
            refine g_get (pc := 140) C zf_X11_29 0 rfl rfl dX11_against_140 ?_
            refine g_iload (pc := 143) C 6 dX11_against_143 rfl ?_
            refine g_iald (pc := 145) C (N := 240) 3 rfl rfl (Nat.le_of_ble_eq_true rfl) dX11_against_145 hf (fun hf => ?_)
            refine g_iadd (pc := 146) C dX11_against_146 ?_
            refine g_istore (pc := 147) C (lv' := [(4, .int (zI (v4 + (mo_lengthOf v6.toNat)))), (0, .ref (aMo 0)), (1, .int (zI v1)), (2, .int (zI v2)), (3, .int (zI v3)), (5, .int (zI v5)), (6, .int (zI v6))]) dX11_against_147 (Nat.le_of_ble_eq_true rfl) rfl ?_
            refine g_iinc (pc := 149) C 5 (lv' := [(5, .int (zI (v5 + 1))), (4, .int (zI (v4 + (mo_lengthOf v6.toNat)))), (0, .ref (aMo 0)), (1, .int (zI v1)), (2, .int (zI v2)), (3, .int (zI v3)), (6, .int (zI v6))]) dX11_against_149 rfl (Nat.le_of_ble_eq_true rfl) rfl ?_
            refine g_goto (pc := 152) C (tgt := 55) dX11_against_152 (by decide) ?_
            refine g_sub [0, 1, 2, 3, 4, 5, 6, 7, 8] [2, 3, 4, 5, 1, 0] (by decide) rfl rfl rfl ?_
            exact ih55 _ _ _ hf
          have H79 : ∀ (v3 : Int) (v4 : Int) (v5 : Int) (v6 : Int) (n79 : Nat) (v7 : Int) (mo_driving : Nat → Int), zlp (fX11_against_79 (zlp (fX11_against_55 (zlp (fX11_against_44 v1 v2 mo_acts mo_kindOf mo_lengthOf mo_vehicleOf mo_trips mo_tripFrom mo_tripTo) n44) v1 v3 mo_acts mo_kindOf mo_lengthOf mo_vehicleOf) n55) v1 v4 v5 v6 mo_kindOf mo_lengthOf mo_vehicleOf) n79 (v7, mo_driving) = some (r_o, mo_driving_o) → Zd D Γ 0 0 [((aMo 0), .inr (11, [.ref (aMo 1), .int (zI mo_taped), .ref (aMo 3), .ref (aMo 4), .ref (aMo 5), .ref (aMo 6), .ref (aMo 7), .ref (aMo 8), .ref (aMo 9), .ref (aMo 10), .ref (aMo 11), .ref (aMo 12), .ref (aMo 13), .ref (aMo 14), .ref (aMo 15), .ref (aMo 16), .int (zI mo_size), .int (zI mo_runs), .ref (aMo 19), .ref (aMo 20), .ref (aMo 21), .int (zI mo_found), .int (zI mo_counted), .int (zI mo_isParted), .ref (aMo 25), .ref (aMo 26), .ref (aMo 27), .ref (aMo 28), .ref (aMo 29), .int (zI mo_maybes), .int (zI mo_days), .int (zI mo_over2), .int (zI mo_longer), .ref (aMo 34)])), ((aMo 5), .inl (ca 0, 4, .inl (zA mo_acts))), ((aMo 7), .inl (ca 0, 240, .inl (zA mo_kindOf))), ((aMo 8), .inl (ca 0, 240, .inl (zA mo_lengthOf))), ((aMo 9), .inl (ca 0, 240, .inl (zA mo_vehicleOf))), ((aMo 10), .inl (ca 0, 2, .inl (zA mo_trips))), ((aMo 11), .inl (ca 0, 40, .inl (zA mo_tripFrom))), ((aMo 12), .inl (ca 0, 40, .inl (zA mo_tripTo))), ((aMo 34), .inl (ca 0, 20160, .inl (zA mo_driving)))] 79 [(0, .ref (aMo 0)), (1, .int (zI v1)), (2, .int (zI v2)), (3, .int (zI v3)), (4, .int (zI v4)), (5, .int (zI v5)), (6, .int (zI v6)), (7, .int (zI v7))] [] := by
            intro v3 v4 v5 v6
            intro n79
            induction n79 with
            | zero =>
              intro v7 mo_driving hf
              exact zno hf
            | succ n79 ih79 =>
              intro v7 mo_driving hf
              rw [zlp_s] at hf
              unfold fX11_against_79 at hf
              dsimp only at hf
              refine g_iload (pc := 79) C 7 dX11_against_79 rfl ?_
              refine g_iload (pc := 81) C 4 dX11_against_81 rfl ?_
              refine g_aload_n (pc := 83) C 0 dX11_against_83 rfl rfl ?_
              refine g_get (pc := 84) C zf_X11_29 0 rfl rfl dX11_against_84 ?_
              refine g_iload (pc := 87) C 6 dX11_against_87 rfl ?_
              refine g_iald (pc := 89) C (N := 240) 3 rfl rfl (Nat.le_of_ble_eq_true rfl) dX11_against_89 hf (fun hf => ?_)
              refine g_iadd (pc := 90) C dX11_against_90 ?_
              refine g_icmp_ge (pc := 91) C (tgt := 137) dX11_against_91 (by decide) hf (fun hf => ?_) (fun hf => ?_)
              · refine g_sub [0, 1, 2, 3, 4, 5, 6, 7, 8] [0, 1, 2, 3, 4, 5, 6] (by decide) rfl rfl rfl ?_
                exact H137 _ _ _ _ _ hf
              · refine g_aload_n (pc := 94) C 0 dX11_against_94 rfl rfl ?_
                refine g_get (pc := 95) C zf_X11_26 0 rfl rfl dX11_against_95 ?_
                refine g_iload (pc := 98) C 6 dX11_against_98 rfl ?_
                refine g_iald (pc := 100) C (N := 240) 2 rfl rfl (Nat.le_of_ble_eq_true rfl) dX11_against_100 hf (fun hf => ?_)
                refine g_if_ne (pc := 101) C (tgt := 137) dX11_against_101 (by decide) hf (fun hf => ?_) (fun hf => ?_)
                · refine g_sub [0, 1, 2, 3, 4, 5, 6, 7, 8] [0, 1, 2, 3, 4, 5, 6] (by decide) rfl rfl rfl ?_
                  exact H137 _ _ _ _ _ hf
                · refine g_aload_n (pc := 104) C 0 dX11_against_104 rfl rfl ?_
                  refine g_get (pc := 105) C zf_X11_32 0 rfl rfl dX11_against_105 ?_
                  refine g_iload (pc := 108) C 6 dX11_against_108 rfl ?_
                  refine g_iald (pc := 110) C (N := 240) 4 rfl rfl (Nat.le_of_ble_eq_true rfl) dX11_against_110 hf (fun hf => ?_)
                  refine g_iload_n (pc := 111) C 1 dX11_against_111 rfl rfl ?_
                  refine g_icmp_ne (pc := 112) C (tgt := 137) dX11_against_112 (by decide) hf (fun hf => ?_) (fun hf => ?_)
                  · refine g_sub [0, 1, 2, 3, 4, 5, 6, 7, 8] [0, 1, 2, 3, 4, 5, 6] (by decide) rfl rfl rfl ?_
                    exact H137 _ _ _ _ _ hf
                  · refine g_aload_n (pc := 115) C 0 dX11_against_115 rfl rfl ?_
                    refine g_get (pc := 116) C zf_X11_81 0 rfl rfl dX11_against_116 ?_
                    refine g_iload (pc := 119) C 7 dX11_against_119 rfl ?_
                    refine g_aload_n (pc := 121) C 0 dX11_against_121 rfl rfl ?_
                    refine g_get (pc := 122) C zf_X11_81 0 rfl rfl dX11_against_122 ?_
                    refine g_iload (pc := 125) C 7 dX11_against_125 rfl ?_
                    refine g_iald (pc := 127) C (N := 20160) 8 rfl rfl (Nat.le_of_ble_eq_true rfl) dX11_against_127 hf (fun hf => ?_)
                    refine g_iconst (pc := 128) C dX11_against_128 ?_
                    refine g_iadd (pc := 129) C dX11_against_129 ?_
                    refine g_iast (pc := 130) C (N := 20160) (ws' := [((aMo 0), .inr (11, [.ref (aMo 1), .int (zI mo_taped), .ref (aMo 3), .ref (aMo 4), .ref (aMo 5), .ref (aMo 6), .ref (aMo 7), .ref (aMo 8), .ref (aMo 9), .ref (aMo 10), .ref (aMo 11), .ref (aMo 12), .ref (aMo 13), .ref (aMo 14), .ref (aMo 15), .ref (aMo 16), .int (zI mo_size), .int (zI mo_runs), .ref (aMo 19), .ref (aMo 20), .ref (aMo 21), .int (zI mo_found), .int (zI mo_counted), .int (zI mo_isParted), .ref (aMo 25), .ref (aMo 26), .ref (aMo 27), .ref (aMo 28), .ref (aMo 29), .int (zI mo_maybes), .int (zI mo_days), .int (zI mo_over2), .int (zI mo_longer), .ref (aMo 34)])), ((aMo 5), .inl (ca 0, 4, .inl (zA mo_acts))), ((aMo 7), .inl (ca 0, 240, .inl (zA mo_kindOf))), ((aMo 8), .inl (ca 0, 240, .inl (zA mo_lengthOf))), ((aMo 9), .inl (ca 0, 240, .inl (zA mo_vehicleOf))), ((aMo 10), .inl (ca 0, 2, .inl (zA mo_trips))), ((aMo 11), .inl (ca 0, 40, .inl (zA mo_tripFrom))), ((aMo 12), .inl (ca 0, 40, .inl (zA mo_tripTo))), ((aMo 34), .inl (ca 0, 20160, .inl (zA (zU mo_driving v7.toNat ((mo_driving v7.toNat) + 1)))))]) 8 rfl rfl (Nat.le_of_ble_eq_true rfl) rfl dX11_against_130 hf (fun hf => ?_)
                    refine g_iinc (pc := 131) C 7 (lv' := [(7, .int (zI (v7 + 1))), (0, .ref (aMo 0)), (1, .int (zI v1)), (2, .int (zI v2)), (3, .int (zI v3)), (4, .int (zI v4)), (5, .int (zI v5)), (6, .int (zI v6))]) dX11_against_131 rfl (Nat.le_of_ble_eq_true rfl) rfl ?_
                    refine g_goto (pc := 134) C (tgt := 79) dX11_against_134 (by decide) ?_
                    refine g_sub [0, 1, 2, 3, 4, 5, 6, 7, 8] [1, 2, 3, 4, 5, 6, 7, 0] (by decide) rfl rfl rfl ?_
                    exact ih79 _ _ hf
          intro v4 v5 mo_driving hf
          rw [zlp_s] at hf
          unfold fX11_against_55 at hf
          dsimp only at hf
          refine g_iload (pc := 55) C 5 dX11_against_55 rfl ?_
          refine g_aload_n (pc := 57) C 0 dX11_against_57 rfl rfl ?_
          refine g_get (pc := 58) C zf_X11_20 0 rfl rfl dX11_against_58 ?_
          refine g_iload_n (pc := 61) C 3 dX11_against_61 rfl rfl ?_
          refine g_iald (pc := 62) C (N := 4) 1 rfl rfl (Nat.le_of_ble_eq_true rfl) dX11_against_62 hf (fun hf => ?_)
          refine g_icmp_ge (pc := 63) C (tgt := 155) dX11_against_63 (by decide) hf (fun hf => ?_) (fun hf => ?_)
          · refine g_iinc (pc := 155) C 3 (lv' := [(3, .int (zI (v3 + 1))), (0, .ref (aMo 0)), (1, .int (zI v1)), (2, .int (zI v2)), (4, .int (zI v4)), (5, .int (zI v5))]) dX11_against_155 rfl (Nat.le_of_ble_eq_true rfl) rfl ?_
            refine g_goto (pc := 158) C (tgt := 44) dX11_against_158 (by decide) ?_
            refine g_sub [0, 1, 2, 3, 4, 5, 6, 7, 8] [1, 2, 3, 0] (by decide) rfl rfl rfl ?_
            exact ih44 _ _ hf
          · refine g_bipush (pc := 66) C dX11_against_66 (by decide) ?_
            refine g_iload_n (pc := 68) C 3 dX11_against_68 rfl rfl ?_
            refine g_imul (pc := 69) C dX11_against_69 ?_
            refine g_iload (pc := 70) C 5 dX11_against_70 rfl ?_
            refine g_iadd (pc := 72) C dX11_against_72 ?_
            refine g_istore (pc := 73) C (lv' := [(6, .int (zI ((60 * v3) + v5))), (0, .ref (aMo 0)), (1, .int (zI v1)), (2, .int (zI v2)), (3, .int (zI v3)), (4, .int (zI v4)), (5, .int (zI v5))]) dX11_against_73 (Nat.le_of_ble_eq_true rfl) rfl ?_
            refine g_iload (pc := 75) C 5 dX11_against_75 rfl ?_
            refine g_istore (pc := 77) C (lv' := [(7, .int (zI v4)), (6, .int (zI ((60 * v3) + v5))), (0, .ref (aMo 0)), (1, .int (zI v1)), (2, .int (zI v2)), (3, .int (zI v3)), (4, .int (zI v4)), (5, .int (zI v5))]) dX11_against_77 (Nat.le_of_ble_eq_true rfl) rfl ?_
            refine g_sub [0, 1, 2, 3, 4, 5, 6, 7, 8] [2, 3, 4, 5, 6, 7, 1, 0] (by decide) rfl rfl rfl ?_
            exact H79 _ _ _ _ _ _ _ hf
      intro v3 mo_driving hf
      rw [zlp_s] at hf
      unfold fX11_against_44 at hf
      dsimp only at hf
      refine g_iload_n (pc := 44) C 3 dX11_against_44 rfl rfl ?_
      refine g_iconst (pc := 45) C dX11_against_45 ?_
      refine g_icmp_ger (pc := 46) C (tgt := 161) dX11_against_46 (by decide) (by decide) hf (fun hf => ?_) (fun hf => ?_)
      · refine g_iconst (pc := 161) C dX11_against_161 ?_
        refine g_istore_n (pc := 162) C (lv' := [(3, .int (zI 0)), (0, .ref (aMo 0)), (1, .int (zI v1)), (2, .int (zI v2))]) dX11_against_162 rfl (Nat.le_of_ble_eq_true rfl) rfl ?_
        refine g_iconst (pc := 163) C dX11_against_163 ?_
        refine g_istore (pc := 164) C (lv' := [(4, .int (zI 0)), (3, .int (zI 0)), (0, .ref (aMo 0)), (1, .int (zI v1)), (2, .int (zI v2))]) dX11_against_164 (Nat.le_of_ble_eq_true rfl) rfl ?_
        refine g_sub [0, 1, 2, 3, 4, 5, 6, 7, 8] [2, 3, 4, 1, 0] (by decide) rfl rfl rfl ?_
        exact H166 _ _ _ _ hf
      · refine g_iconst (pc := 49) C dX11_against_49 ?_
        refine g_istore (pc := 50) C (lv' := [(4, .int (zI 0)), (0, .ref (aMo 0)), (1, .int (zI v1)), (2, .int (zI v2)), (3, .int (zI v3))]) dX11_against_50 (Nat.le_of_ble_eq_true rfl) rfl ?_
        refine g_iconst (pc := 52) C dX11_against_52 ?_
        refine g_istore (pc := 53) C (lv' := [(5, .int (zI 0)), (4, .int (zI 0)), (0, .ref (aMo 0)), (1, .int (zI v1)), (2, .int (zI v2)), (3, .int (zI v3))]) dX11_against_53 (Nat.le_of_ble_eq_true rfl) rfl ?_
        refine g_sub [0, 1, 2, 3, 4, 5, 6, 7, 8] [2, 3, 4, 5, 1, 0] (by decide) rfl rfl rfl ?_
        exact H55 _ _ _ _ _ hf
  have H22 : ∀  (n22 : Nat) (v3 : Int) (mo_driving : Nat → Int), zlp (fX11_against_22 v1 v2 mo_acts mo_kindOf mo_lengthOf mo_vehicleOf mo_trips mo_tripFrom mo_tripTo) n22 (v3, mo_driving) = some (r_o, mo_driving_o) → Zd D Γ 0 0 [((aMo 0), .inr (11, [.ref (aMo 1), .int (zI mo_taped), .ref (aMo 3), .ref (aMo 4), .ref (aMo 5), .ref (aMo 6), .ref (aMo 7), .ref (aMo 8), .ref (aMo 9), .ref (aMo 10), .ref (aMo 11), .ref (aMo 12), .ref (aMo 13), .ref (aMo 14), .ref (aMo 15), .ref (aMo 16), .int (zI mo_size), .int (zI mo_runs), .ref (aMo 19), .ref (aMo 20), .ref (aMo 21), .int (zI mo_found), .int (zI mo_counted), .int (zI mo_isParted), .ref (aMo 25), .ref (aMo 26), .ref (aMo 27), .ref (aMo 28), .ref (aMo 29), .int (zI mo_maybes), .int (zI mo_days), .int (zI mo_over2), .int (zI mo_longer), .ref (aMo 34)])), ((aMo 5), .inl (ca 0, 4, .inl (zA mo_acts))), ((aMo 7), .inl (ca 0, 240, .inl (zA mo_kindOf))), ((aMo 8), .inl (ca 0, 240, .inl (zA mo_lengthOf))), ((aMo 9), .inl (ca 0, 240, .inl (zA mo_vehicleOf))), ((aMo 10), .inl (ca 0, 2, .inl (zA mo_trips))), ((aMo 11), .inl (ca 0, 40, .inl (zA mo_tripFrom))), ((aMo 12), .inl (ca 0, 40, .inl (zA mo_tripTo))), ((aMo 34), .inl (ca 0, 20160, .inl (zA mo_driving)))] 22 [(0, .ref (aMo 0)), (1, .int (zI v1)), (2, .int (zI v2)), (3, .int (zI v3))] [] := by
    intro n22
    induction n22 with
    | zero =>
      intro v3 mo_driving hf
      exact zno hf
    | succ n22 ih22 =>
      intro v3 mo_driving hf
      rw [zlp_s] at hf
      unfold fX11_against_22 at hf
      dsimp only at hf
      refine g_iload_n (pc := 22) C 3 dX11_against_22 rfl rfl ?_
      refine g_sipush (pc := 23) C dX11_against_23 (by decide) ?_
      refine g_icmp_ger (pc := 26) C (tgt := 42) dX11_against_26 (by decide) (by decide) hf (fun hf => ?_) (fun hf => ?_)
      · refine g_iconst (pc := 42) C dX11_against_42 ?_
        refine g_istore_n (pc := 43) C (lv' := [(3, .int (zI 0)), (0, .ref (aMo 0)), (1, .int (zI v1)), (2, .int (zI v2))]) dX11_against_43 rfl (Nat.le_of_ble_eq_true rfl) rfl ?_
        refine g_sub [0, 1, 2, 3, 4, 5, 6, 7, 8] [1, 2, 3, 0] (by decide) rfl rfl rfl ?_
        exact H44 _ _ _ hf
      · refine g_aload_n (pc := 29) C 0 dX11_against_29 rfl rfl ?_
        refine g_get (pc := 30) C zf_X11_81 0 rfl rfl dX11_against_30 ?_
        refine g_iload_n (pc := 33) C 3 dX11_against_33 rfl rfl ?_
        refine g_iconst (pc := 34) C dX11_against_34 ?_
        refine g_iast (pc := 35) C (N := 20160) (ws' := [((aMo 0), .inr (11, [.ref (aMo 1), .int (zI mo_taped), .ref (aMo 3), .ref (aMo 4), .ref (aMo 5), .ref (aMo 6), .ref (aMo 7), .ref (aMo 8), .ref (aMo 9), .ref (aMo 10), .ref (aMo 11), .ref (aMo 12), .ref (aMo 13), .ref (aMo 14), .ref (aMo 15), .ref (aMo 16), .int (zI mo_size), .int (zI mo_runs), .ref (aMo 19), .ref (aMo 20), .ref (aMo 21), .int (zI mo_found), .int (zI mo_counted), .int (zI mo_isParted), .ref (aMo 25), .ref (aMo 26), .ref (aMo 27), .ref (aMo 28), .ref (aMo 29), .int (zI mo_maybes), .int (zI mo_days), .int (zI mo_over2), .int (zI mo_longer), .ref (aMo 34)])), ((aMo 5), .inl (ca 0, 4, .inl (zA mo_acts))), ((aMo 7), .inl (ca 0, 240, .inl (zA mo_kindOf))), ((aMo 8), .inl (ca 0, 240, .inl (zA mo_lengthOf))), ((aMo 9), .inl (ca 0, 240, .inl (zA mo_vehicleOf))), ((aMo 10), .inl (ca 0, 2, .inl (zA mo_trips))), ((aMo 11), .inl (ca 0, 40, .inl (zA mo_tripFrom))), ((aMo 12), .inl (ca 0, 40, .inl (zA mo_tripTo))), ((aMo 34), .inl (ca 0, 20160, .inl (zA (zU mo_driving v3.toNat 0))))]) 8 rfl rfl (Nat.le_of_ble_eq_true rfl) rfl dX11_against_35 hf (fun hf => ?_)
        refine g_iinc (pc := 36) C 3 (lv' := [(3, .int (zI (v3 + 1))), (0, .ref (aMo 0)), (1, .int (zI v1)), (2, .int (zI v2))]) dX11_against_36 rfl (Nat.le_of_ble_eq_true rfl) rfl ?_
        refine g_goto (pc := 39) C (tgt := 22) dX11_against_39 (by decide) ?_
        refine g_sub [0, 1, 2, 3, 4, 5, 6, 7, 8] [1, 2, 3, 0] (by decide) rfl rfl rfl ?_
        exact ih22 _ _ hf
  unfold fX11_against at hf
  refine g_iload_n (pc := 0) C 1 dX11_against_0 rfl rfl ?_
  refine g_if_lt (pc := 1) C (tgt := 18) dX11_against_1 (by decide) hf (fun hf => ?_) (fun hf => ?_)
  · refine g_sub [0, 1, 2, 3, 4, 5, 6, 7, 8] [] (by decide) rfl rfl rfl ?_
    exact H18 _ hf
  · refine g_iload_n (pc := 4) C 1 dX11_against_4 rfl rfl ?_
    refine g_iconst (pc := 5) C dX11_against_5 ?_
    refine g_icmp_gtr (pc := 6) C (tgt := 18) dX11_against_6 (by decide) (by decide) hf (fun hf => ?_) (fun hf => ?_)
    · refine g_sub [0, 1, 2, 3, 4, 5, 6, 7, 8] [] (by decide) rfl rfl rfl ?_
      exact H18 _ hf
    · refine g_iload_n (pc := 9) C 2 dX11_against_9 rfl rfl ?_
      refine g_if_lt (pc := 10) C (tgt := 18) dX11_against_10 (by decide) hf (fun hf => ?_) (fun hf => ?_)
      · refine g_sub [0, 1, 2, 3, 4, 5, 6, 7, 8] [] (by decide) rfl rfl rfl ?_
        exact H18 _ hf
      · refine g_iload_n (pc := 13) C 2 dX11_against_13 rfl rfl ?_
        refine g_iconst (pc := 14) C dX11_against_14 ?_
        refine g_icmp_ler (pc := 15) C (tgt := 20) dX11_against_15 (by decide) (by decide) hf (fun hf => ?_) (fun hf => ?_)
        · refine g_iconst (pc := 20) C dX11_against_20 ?_
          refine g_istore_n (pc := 21) C (lv' := [(3, .int (zI 0)), (0, .ref (aMo 0)), (1, .int (zI v1)), (2, .int (zI v2))]) dX11_against_21 rfl (Nat.le_of_ble_eq_true rfl) rfl ?_
          refine g_sub [0, 1, 2, 3, 4, 5, 6, 7, 8] [1, 2, 3, 0] (by decide) rfl rfl rfl ?_
          exact H22 _ _ _ hf
        · refine g_sub [0, 1, 2, 3, 4, 5, 6, 7, 8] [] (by decide) rfl rfl rfl ?_
          exact H18 _ hf
set_option maxRecDepth 100000 in
theorem kX11_begins (l : Launch) (D : va_G) (ca : Nat → ClassId) (ap0 : Nat) (p0 : Nat → Int)  (p0_o : Nat → Int)
    (hf : fX11_begins p0 = some p0_o) : Zc l D ca yX11_begins cX11_begins 1 none { frames := 0, cells := 0, slots := 0, locals := 0 } [.ref ap0] [(ap0, .inl (ca 0, 11, .inl (zA p0)))] none (fun _ => [(ap0, .inl (ca 0, 11, .inl (zA p0_o)))]) := by
  refine ctr_of (lv := [(0, .ref ap0)]) (by decide +kernel) (Nat.le_of_ble_eq_true rfl) rfl (fun Γ hl0 C E hnm => ?_)
  unfold fX11_begins at hf
  refine g_aload_n (pc := 0) C 0 dX11_begins_0 rfl rfl ?_
  refine g_iconst (pc := 1) C dX11_begins_1 ?_
  refine g_sipush (pc := 2) C dX11_begins_2 (by decide) ?_
  refine g_iastK (pc := 5) C (ws' := [(ap0, .inl (ca 0, 11, .inl (zA (zU p0 0 270))))]) 0 0 rfl rfl (Nat.le_of_ble_eq_true rfl) (Nat.le_of_ble_eq_true rfl) rfl dX11_begins_5 ?_
  refine g_aload_n (pc := 6) C 0 dX11_begins_6 rfl rfl ?_
  refine g_iconst (pc := 7) C dX11_begins_7 ?_
  refine g_bipush (pc := 8) C dX11_begins_8 (by decide) ?_
  refine g_iastK (pc := 10) C (ws' := [(ap0, .inl (ca 0, 11, .inl (zA (zU (zU p0 0 270) 1 45))))]) 1 0 rfl rfl (Nat.le_of_ble_eq_true rfl) (Nat.le_of_ble_eq_true rfl) rfl dX11_begins_10 ?_
  refine g_aload_n (pc := 11) C 0 dX11_begins_11 rfl rfl ?_
  refine g_iconst (pc := 12) C dX11_begins_12 ?_
  refine g_bipush (pc := 13) C dX11_begins_13 (by decide) ?_
  refine g_iastK (pc := 15) C (ws' := [(ap0, .inl (ca 0, 11, .inl (zA (zU (zU (zU p0 0 270) 1 45) 2 15))))]) 2 0 rfl rfl (Nat.le_of_ble_eq_true rfl) (Nat.le_of_ble_eq_true rfl) rfl dX11_begins_15 ?_
  refine g_aload_n (pc := 16) C 0 dX11_begins_16 rfl rfl ?_
  refine g_iconst (pc := 17) C dX11_begins_17 ?_
  refine g_bipush (pc := 18) C dX11_begins_18 (by decide) ?_
  refine g_iastK (pc := 20) C (ws' := [(ap0, .inl (ca 0, 11, .inl (zA (zU (zU (zU (zU p0 0 270) 1 45) 2 15) 3 30))))]) 3 0 rfl rfl (Nat.le_of_ble_eq_true rfl) (Nat.le_of_ble_eq_true rfl) rfl dX11_begins_20 ?_
  refine g_aload_n (pc := 21) C 0 dX11_begins_21 rfl rfl ?_
  refine g_iconst (pc := 22) C dX11_begins_22 ?_
  refine g_sipush (pc := 23) C dX11_begins_23 (by decide) ?_
  refine g_iastK (pc := 26) C (ws' := [(ap0, .inl (ca 0, 11, .inl (zA (zU (zU (zU (zU (zU p0 0 270) 1 45) 2 15) 3 30) 4 540))))]) 4 0 rfl rfl (Nat.le_of_ble_eq_true rfl) (Nat.le_of_ble_eq_true rfl) rfl dX11_begins_26 ?_
  refine g_aload_n (pc := 27) C 0 dX11_begins_27 rfl rfl ?_
  refine g_iconst (pc := 28) C dX11_begins_28 ?_
  refine g_sipush (pc := 29) C dX11_begins_29 (by decide) ?_
  refine g_iastK (pc := 32) C (ws' := [(ap0, .inl (ca 0, 11, .inl (zA (zU (zU (zU (zU (zU (zU p0 0 270) 1 45) 2 15) 3 30) 4 540) 5 600))))]) 5 0 rfl rfl (Nat.le_of_ble_eq_true rfl) (Nat.le_of_ble_eq_true rfl) rfl dX11_begins_32 ?_
  refine g_aload_n (pc := 33) C 0 dX11_begins_33 rfl rfl ?_
  refine g_bipush (pc := 34) C dX11_begins_34 (by decide) ?_
  refine g_iconst (pc := 36) C dX11_begins_36 ?_
  refine g_iastK (pc := 37) C (ws' := [(ap0, .inl (ca 0, 11, .inl (zA (zU (zU (zU (zU (zU (zU (zU p0 0 270) 1 45) 2 15) 3 30) 4 540) 5 600) 6 2))))]) 6 0 rfl rfl (Nat.le_of_ble_eq_true rfl) (Nat.le_of_ble_eq_true rfl) rfl dX11_begins_37 ?_
  refine g_aload_n (pc := 38) C 0 dX11_begins_38 rfl rfl ?_
  refine g_bipush (pc := 39) C dX11_begins_39 (by decide) ?_
  refine g_sipush (pc := 41) C dX11_begins_41 (by decide) ?_
  refine g_iastK (pc := 44) C (ws' := [(ap0, .inl (ca 0, 11, .inl (zA (zU (zU (zU (zU (zU (zU (zU (zU p0 0 270) 1 45) 2 15) 3 30) 4 540) 5 600) 6 2) 7 660))))]) 7 0 rfl rfl (Nat.le_of_ble_eq_true rfl) (Nat.le_of_ble_eq_true rfl) rfl dX11_begins_44 ?_
  refine g_aload_n (pc := 45) C 0 dX11_begins_45 rfl rfl ?_
  refine g_bipush (pc := 46) C dX11_begins_46 (by decide) ?_
  refine g_sipush (pc := 48) C dX11_begins_48 (by decide) ?_
  refine g_iastK (pc := 51) C (ws' := [(ap0, .inl (ca 0, 11, .inl (zA (zU (zU (zU (zU (zU (zU (zU (zU (zU p0 0 270) 1 45) 2 15) 3 30) 4 540) 5 600) 6 2) 7 660) 8 540))))]) 8 0 rfl rfl (Nat.le_of_ble_eq_true rfl) (Nat.le_of_ble_eq_true rfl) rfl dX11_begins_51 ?_
  refine g_aload_n (pc := 52) C 0 dX11_begins_52 rfl rfl ?_
  refine g_bipush (pc := 53) C dX11_begins_53 (by decide) ?_
  refine g_iconst (pc := 55) C dX11_begins_55 ?_
  refine g_iastK (pc := 56) C (ws' := [(ap0, .inl (ca 0, 11, .inl (zA (zU (zU (zU (zU (zU (zU (zU (zU (zU (zU p0 0 270) 1 45) 2 15) 3 30) 4 540) 5 600) 6 2) 7 660) 8 540) 9 3))))]) 9 0 rfl rfl (Nat.le_of_ble_eq_true rfl) (Nat.le_of_ble_eq_true rfl) rfl dX11_begins_56 ?_
  refine g_aload_n (pc := 57) C 0 dX11_begins_57 rfl rfl ?_
  refine g_bipush (pc := 58) C dX11_begins_58 (by decide) ?_
  refine g_sipush (pc := 60) C dX11_begins_60 (by decide) ?_
  refine g_iastK (pc := 63) C (ws' := [(ap0, .inl (ca 0, 11, .inl (zA (zU (zU (zU (zU (zU (zU (zU (zU (zU (zU (zU p0 0 270) 1 45) 2 15) 3 30) 4 540) 5 600) 6 2) 7 660) 8 540) 9 3) 10 3360))))]) 10 0 rfl rfl (Nat.le_of_ble_eq_true rfl) (Nat.le_of_ble_eq_true rfl) rfl dX11_begins_63 ?_
  cases hf
  exact g_vret (pc := 64) C E (fun _ => 0) [0] (by decide) rfl rfl (Nat.le_refl _) (Nat.le_refl _) dX11_begins_64
set_option maxRecDepth 100000 in
theorem kX11_bits (l : Launch) (D : va_G) (ca : Nat → ClassId)   (v0 : Int) (r_o : Int)
    (hf : fX11_bits v0 = some r_o) : Zc l D ca yX11_bits cX11_bits 3 (some .int) { frames := 0, cells := 0, slots := 0, locals := 0 } [.int (zI v0)] [] (some (.int (zI r_o))) (fun _ => []) := by
  refine ctr_of (lv := [(0, .int (zI v0))]) (by decide +kernel) (Nat.le_of_ble_eq_true rfl) rfl (fun Γ hl0 C E hnm => ?_)
  have H4 : ∀  (n4 : Nat) (v1 : Int) (v2 : Int), zlp (fX11_bits_4 v0) n4 (v1, v2) = some r_o → Zd D Γ 0 0 [] 4 [(0, .int (zI v0)), (1, .int (zI v1)), (2, .int (zI v2))] [] := by
    intro n4
    induction n4 with
    | zero =>
      intro v1 v2 hf
      exact zno hf
    | succ n4 ih4 =>
      intro v1 v2 hf
      rw [zlp_s] at hf
      unfold fX11_bits_4 at hf
      dsimp only at hf
      refine g_iload_n (pc := 4) C 2 dX11_bits_4 rfl rfl ?_
      refine g_bipush (pc := 5) C dX11_bits_5 (by decide) ?_
      refine g_icmp_ger (pc := 7) C (tgt := 24) dX11_bits_7 (by decide) (by decide) hf (fun hf => ?_) (fun hf => ?_)
      · refine g_iload_n (pc := 24) C 1 dX11_bits_24 rfl rfl ?_
        cases hf
        exact g_iret (pc := 25) C E (fun _ => 0) [] (by decide) rfl rfl (Nat.le_refl _) (Nat.le_refl _) dX11_bits_25
      · refine g_iload_n (pc := 10) C 1 dX11_bits_10 rfl rfl ?_
        refine g_iload_n (pc := 11) C 0 dX11_bits_11 rfl rfl ?_
        refine g_iload_n (pc := 12) C 2 dX11_bits_12 rfl rfl ?_
        refine g_ishr (pc := 13) C dX11_bits_13 ?_
        refine g_iconst (pc := 14) C dX11_bits_14 ?_
        refine g_iand (pc := 15) C dX11_bits_15 ?_
        refine g_iadd (pc := 16) C dX11_bits_16 ?_
        refine g_istore_n (pc := 17) C (lv' := [(1, .int (zI (v1 + (zand (zshr v0 v2) 1)))), (0, .int (zI v0)), (2, .int (zI v2))]) dX11_bits_17 rfl (Nat.le_of_ble_eq_true rfl) rfl ?_
        refine g_iinc (pc := 18) C 2 (lv' := [(2, .int (zI (v2 + 1))), (1, .int (zI (v1 + (zand (zshr v0 v2) 1)))), (0, .int (zI v0))]) dX11_bits_18 rfl (Nat.le_of_ble_eq_true rfl) rfl ?_
        refine g_goto (pc := 21) C (tgt := 4) dX11_bits_21 (by decide) ?_
        refine g_sub [] [2, 1, 0] (by decide) rfl rfl rfl ?_
        exact ih4 _ _ hf
  unfold fX11_bits at hf
  refine g_iconst (pc := 0) C dX11_bits_0 ?_
  refine g_istore_n (pc := 1) C (lv' := [(1, .int (zI 0)), (0, .int (zI v0))]) dX11_bits_1 rfl (Nat.le_of_ble_eq_true rfl) rfl ?_
  refine g_iconst (pc := 2) C dX11_bits_2 ?_
  refine g_istore_n (pc := 3) C (lv' := [(2, .int (zI 0)), (1, .int (zI 0)), (0, .int (zI v0))]) dX11_bits_3 rfl (Nat.le_of_ble_eq_true rfl) rfl ?_
  refine g_sub [] [2, 1, 0] (by decide) rfl rfl rfl ?_
  exact H4 _ _ _ hf
set_option maxRecDepth 100000 in
theorem kX11_isRest (l : Launch) (D : va_G) (ca : Nat → ClassId) (aMo : Nat → Nat) (mo_taped : Int) (mo_acts : Nat → Int) (mo_kindOf : Nat → Int) (mo_size : Int) (mo_runs : Int) (mo_found : Int) (mo_counted : Int) (mo_isParted : Int) (mo_maybes : Int) (mo_days : Int) (mo_over2 : Int) (mo_longer : Int) (v1 : Int) (v2 : Int) (v3 : Int) (r_o : Int)
    (hf : fX11_isRest v1 v2 v3 mo_acts mo_kindOf = some r_o) : Zc l D ca yX11_isRest cX11_isRest 4 (some .boolean) { frames := 0, cells := 0, slots := 0, locals := 0 } [.ref (aMo 0), .int (zI v1), .int (zI v2), .int (zI v3)] [((aMo 0), .inr (11, [.ref (aMo 1), .int (zI mo_taped), .ref (aMo 3), .ref (aMo 4), .ref (aMo 5), .ref (aMo 6), .ref (aMo 7), .ref (aMo 8), .ref (aMo 9), .ref (aMo 10), .ref (aMo 11), .ref (aMo 12), .ref (aMo 13), .ref (aMo 14), .ref (aMo 15), .ref (aMo 16), .int (zI mo_size), .int (zI mo_runs), .ref (aMo 19), .ref (aMo 20), .ref (aMo 21), .int (zI mo_found), .int (zI mo_counted), .int (zI mo_isParted), .ref (aMo 25), .ref (aMo 26), .ref (aMo 27), .ref (aMo 28), .ref (aMo 29), .int (zI mo_maybes), .int (zI mo_days), .int (zI mo_over2), .int (zI mo_longer), .ref (aMo 34)])), ((aMo 5), .inl (ca 0, 4, .inl (zA mo_acts))), ((aMo 7), .inl (ca 0, 240, .inl (zA mo_kindOf)))] (some (.int (zI r_o))) (fun _ => [((aMo 0), .inr (11, [.ref (aMo 1), .int (zI mo_taped), .ref (aMo 3), .ref (aMo 4), .ref (aMo 5), .ref (aMo 6), .ref (aMo 7), .ref (aMo 8), .ref (aMo 9), .ref (aMo 10), .ref (aMo 11), .ref (aMo 12), .ref (aMo 13), .ref (aMo 14), .ref (aMo 15), .ref (aMo 16), .int (zI mo_size), .int (zI mo_runs), .ref (aMo 19), .ref (aMo 20), .ref (aMo 21), .int (zI mo_found), .int (zI mo_counted), .int (zI mo_isParted), .ref (aMo 25), .ref (aMo 26), .ref (aMo 27), .ref (aMo 28), .ref (aMo 29), .int (zI mo_maybes), .int (zI mo_days), .int (zI mo_over2), .int (zI mo_longer), .ref (aMo 34)])), ((aMo 5), .inl (ca 0, 4, .inl (zA mo_acts))), ((aMo 7), .inl (ca 0, 240, .inl (zA mo_kindOf)))]) := by
  refine ctr_of (lv := [(0, .ref (aMo 0)), (1, .int (zI v1)), (2, .int (zI v2)), (3, .int (zI v3))]) (by decide +kernel) (Nat.le_of_ble_eq_true rfl) rfl (fun Γ hl0 C E hnm => ?_)
  have H48 : fX11_isRest_48 = some r_o → Zd D Γ 0 0 [((aMo 0), .inr (11, [.ref (aMo 1), .int (zI mo_taped), .ref (aMo 3), .ref (aMo 4), .ref (aMo 5), .ref (aMo 6), .ref (aMo 7), .ref (aMo 8), .ref (aMo 9), .ref (aMo 10), .ref (aMo 11), .ref (aMo 12), .ref (aMo 13), .ref (aMo 14), .ref (aMo 15), .ref (aMo 16), .int (zI mo_size), .int (zI mo_runs), .ref (aMo 19), .ref (aMo 20), .ref (aMo 21), .int (zI mo_found), .int (zI mo_counted), .int (zI mo_isParted), .ref (aMo 25), .ref (aMo 26), .ref (aMo 27), .ref (aMo 28), .ref (aMo 29), .int (zI mo_maybes), .int (zI mo_days), .int (zI mo_over2), .int (zI mo_longer), .ref (aMo 34)])), ((aMo 5), .inl (ca 0, 4, .inl (zA mo_acts))), ((aMo 7), .inl (ca 0, 240, .inl (zA mo_kindOf)))] 48 [] [] := by
    intro  hf
    unfold fX11_isRest_48 at hf
    refine g_iconst (pc := 48) C dX11_isRest_48 ?_
    refine g_goto (pc := 49) C (tgt := 53) dX11_isRest_49 (by decide) ?_
    cases hf
    exact g_zret (pc := 53) C E (by decide) (fun _ => 0) [0, 1, 2] (by decide) rfl rfl (Nat.le_refl _) (Nat.le_refl _) dX11_isRest_53
  have H52 : fX11_isRest_52 = some r_o → Zd D Γ 0 0 [((aMo 0), .inr (11, [.ref (aMo 1), .int (zI mo_taped), .ref (aMo 3), .ref (aMo 4), .ref (aMo 5), .ref (aMo 6), .ref (aMo 7), .ref (aMo 8), .ref (aMo 9), .ref (aMo 10), .ref (aMo 11), .ref (aMo 12), .ref (aMo 13), .ref (aMo 14), .ref (aMo 15), .ref (aMo 16), .int (zI mo_size), .int (zI mo_runs), .ref (aMo 19), .ref (aMo 20), .ref (aMo 21), .int (zI mo_found), .int (zI mo_counted), .int (zI mo_isParted), .ref (aMo 25), .ref (aMo 26), .ref (aMo 27), .ref (aMo 28), .ref (aMo 29), .int (zI mo_maybes), .int (zI mo_days), .int (zI mo_over2), .int (zI mo_longer), .ref (aMo 34)])), ((aMo 5), .inl (ca 0, 4, .inl (zA mo_acts))), ((aMo 7), .inl (ca 0, 240, .inl (zA mo_kindOf)))] 52 [] [] := by
    intro  hf
    unfold fX11_isRest_52 at hf
    refine g_iconst (pc := 52) C dX11_isRest_52 ?_
    cases hf
    exact g_zret (pc := 53) C E (by decide) (fun _ => 0) [0, 1, 2] (by decide) rfl rfl (Nat.le_refl _) (Nat.le_refl _) dX11_isRest_53
  unfold fX11_isRest at hf
  refine g_iload_n (pc := 0) C 2 dX11_isRest_0 rfl rfl ?_
  refine g_if_lt (pc := 1) C (tgt := 52) dX11_isRest_1 (by decide) hf (fun hf => ?_) (fun hf => ?_)
  · refine g_sub [0, 1, 2] [] (by decide) rfl rfl rfl ?_
    exact H52  hf
  · refine g_iload_n (pc := 4) C 2 dX11_isRest_4 rfl rfl ?_
    refine g_aload_n (pc := 5) C 0 dX11_isRest_5 rfl rfl ?_
    refine g_get (pc := 6) C zf_X11_20 0 rfl rfl dX11_isRest_6 ?_
    refine g_iload_n (pc := 9) C 1 dX11_isRest_9 rfl rfl ?_
    refine g_iald (pc := 10) C (N := 4) 1 rfl rfl (Nat.le_of_ble_eq_true rfl) dX11_isRest_10 hf (fun hf => ?_)
    refine g_icmp_ge (pc := 11) C (tgt := 52) dX11_isRest_11 (by decide) hf (fun hf => ?_) (fun hf => ?_)
    · refine g_sub [0, 1, 2] [] (by decide) rfl rfl rfl ?_
      exact H52  hf
    · refine g_aload_n (pc := 14) C 0 dX11_isRest_14 rfl rfl ?_
      refine g_get (pc := 15) C zf_X11_26 0 rfl rfl dX11_isRest_15 ?_
      refine g_bipush (pc := 18) C dX11_isRest_18 (by decide) ?_
      refine g_iload_n (pc := 20) C 1 dX11_isRest_20 rfl rfl ?_
      refine g_imul (pc := 21) C dX11_isRest_21 ?_
      refine g_iload_n (pc := 22) C 2 dX11_isRest_22 rfl rfl ?_
      refine g_iadd (pc := 23) C dX11_isRest_23 ?_
      refine g_iald (pc := 24) C (N := 240) 2 rfl rfl (Nat.le_of_ble_eq_true rfl) dX11_isRest_24 hf (fun hf => ?_)
      refine g_iconst (pc := 25) C dX11_isRest_25 ?_
      refine g_icmp_eqr (pc := 26) C (tgt := 48) dX11_isRest_26 (by decide) (by decide) hf (fun hf => ?_) (fun hf => ?_)
      · refine g_sub [0, 1, 2] [] (by decide) rfl rfl rfl ?_
        exact H48  hf
      · refine g_aload_n (pc := 29) C 0 dX11_isRest_29 rfl rfl ?_
        refine g_get (pc := 30) C zf_X11_26 0 rfl rfl dX11_isRest_30 ?_
        refine g_bipush (pc := 33) C dX11_isRest_33 (by decide) ?_
        refine g_iload_n (pc := 35) C 1 dX11_isRest_35 rfl rfl ?_
        refine g_imul (pc := 36) C dX11_isRest_36 ?_
        refine g_iload_n (pc := 37) C 2 dX11_isRest_37 rfl rfl ?_
        refine g_iadd (pc := 38) C dX11_isRest_38 ?_
        refine g_iald (pc := 39) C (N := 240) 2 rfl rfl (Nat.le_of_ble_eq_true rfl) dX11_isRest_39 hf (fun hf => ?_)
        refine g_iconst (pc := 40) C dX11_isRest_40 ?_
        refine g_icmp_ner (pc := 41) C (tgt := 52) dX11_isRest_41 (by decide) (by decide) hf (fun hf => ?_) (fun hf => ?_)
        · refine g_sub [0, 1, 2] [] (by decide) rfl rfl rfl ?_
          exact H52  hf
        · refine g_iload_n (pc := 44) C 3 dX11_isRest_44 rfl rfl ?_
          refine g_if_ne (pc := 45) C (tgt := 52) dX11_isRest_45 (by decide) hf (fun hf => ?_) (fun hf => ?_)
          · refine g_sub [0, 1, 2] [] (by decide) rfl rfl rfl ?_
            exact H52  hf
          · refine g_sub [0, 1, 2] [] (by decide) rfl rfl rfl ?_
            exact H48  hf
set_option maxRecDepth 100000 in
theorem kX11_readAs (l : Launch) (D : va_G) (ca : Nat → ClassId) (aMo : Nat → Nat) (mo_taped : Int) (mo_acts : Nat → Int) (mo_kindOf : Nat → Int) (mo_size : Int) (mo_runs : Int) (mo_found : Int) (mo_counted : Int) (mo_isParted : Int) (mo_maybes : Int) (mo_days : Int) (mo_over2 : Int) (mo_longer : Int) (v1 : Int) (v2 : Int) (v3 : Int) (r_o : Int)
    (hf : fX11_readAs v1 v2 v3 mo_acts mo_kindOf = some r_o) : Zc l D ca yX11_readAs cX11_readAs 5 (some .int) { frames := 1, cells := 0, slots := 0, locals := 23 } [.ref (aMo 0), .int (zI v1), .int (zI v2), .int (zI v3)] [((aMo 0), .inr (11, [.ref (aMo 1), .int (zI mo_taped), .ref (aMo 3), .ref (aMo 4), .ref (aMo 5), .ref (aMo 6), .ref (aMo 7), .ref (aMo 8), .ref (aMo 9), .ref (aMo 10), .ref (aMo 11), .ref (aMo 12), .ref (aMo 13), .ref (aMo 14), .ref (aMo 15), .ref (aMo 16), .int (zI mo_size), .int (zI mo_runs), .ref (aMo 19), .ref (aMo 20), .ref (aMo 21), .int (zI mo_found), .int (zI mo_counted), .int (zI mo_isParted), .ref (aMo 25), .ref (aMo 26), .ref (aMo 27), .ref (aMo 28), .ref (aMo 29), .int (zI mo_maybes), .int (zI mo_days), .int (zI mo_over2), .int (zI mo_longer), .ref (aMo 34)])), ((aMo 5), .inl (ca 0, 4, .inl (zA mo_acts))), ((aMo 7), .inl (ca 0, 240, .inl (zA mo_kindOf)))] (some (.int (zI r_o))) (fun _ => [((aMo 0), .inr (11, [.ref (aMo 1), .int (zI mo_taped), .ref (aMo 3), .ref (aMo 4), .ref (aMo 5), .ref (aMo 6), .ref (aMo 7), .ref (aMo 8), .ref (aMo 9), .ref (aMo 10), .ref (aMo 11), .ref (aMo 12), .ref (aMo 13), .ref (aMo 14), .ref (aMo 15), .ref (aMo 16), .int (zI mo_size), .int (zI mo_runs), .ref (aMo 19), .ref (aMo 20), .ref (aMo 21), .int (zI mo_found), .int (zI mo_counted), .int (zI mo_isParted), .ref (aMo 25), .ref (aMo 26), .ref (aMo 27), .ref (aMo 28), .ref (aMo 29), .int (zI mo_maybes), .int (zI mo_days), .int (zI mo_over2), .int (zI mo_longer), .ref (aMo 34)])), ((aMo 5), .inl (ca 0, 4, .inl (zA mo_acts))), ((aMo 7), .inl (ca 0, 240, .inl (zA mo_kindOf)))]) := by
  refine ctr_of (lv := [(0, .ref (aMo 0)), (1, .int (zI v1)), (2, .int (zI v2)), (3, .int (zI v3))]) (by decide +kernel) (Nat.le_of_ble_eq_true rfl) rfl (fun Γ hl0 C E hnm => ?_)
  have H63 : fX11_readAs_63 = some r_o → Zd D Γ 0 0 [((aMo 0), .inr (11, [.ref (aMo 1), .int (zI mo_taped), .ref (aMo 3), .ref (aMo 4), .ref (aMo 5), .ref (aMo 6), .ref (aMo 7), .ref (aMo 8), .ref (aMo 9), .ref (aMo 10), .ref (aMo 11), .ref (aMo 12), .ref (aMo 13), .ref (aMo 14), .ref (aMo 15), .ref (aMo 16), .int (zI mo_size), .int (zI mo_runs), .ref (aMo 19), .ref (aMo 20), .ref (aMo 21), .int (zI mo_found), .int (zI mo_counted), .int (zI mo_isParted), .ref (aMo 25), .ref (aMo 26), .ref (aMo 27), .ref (aMo 28), .ref (aMo 29), .int (zI mo_maybes), .int (zI mo_days), .int (zI mo_over2), .int (zI mo_longer), .ref (aMo 34)])), ((aMo 5), .inl (ca 0, 4, .inl (zA mo_acts))), ((aMo 7), .inl (ca 0, 240, .inl (zA mo_kindOf)))] 63 [] [] := by
    intro  hf
    unfold fX11_readAs_63 at hf
    refine g_iconst (pc := 63) C dX11_readAs_63 ?_
    cases hf
    exact g_iret (pc := 64) C E (fun _ => 0) [0, 1, 2] (by decide) rfl rfl (Nat.le_refl _) (Nat.le_refl _) dX11_readAs_64
  unfold fX11_readAs at hf
  refine g_aload_n (pc := 0) C 0 dX11_readAs_0 rfl rfl ?_
  refine g_get (pc := 1) C zf_X11_26 0 rfl rfl dX11_readAs_1 ?_
  refine g_bipush (pc := 4) C dX11_readAs_4 (by decide) ?_
  refine g_iload_n (pc := 6) C 1 dX11_readAs_6 rfl rfl ?_
  refine g_imul (pc := 7) C dX11_readAs_7 ?_
  refine g_iload_n (pc := 8) C 2 dX11_readAs_8 rfl rfl ?_
  refine g_iadd (pc := 9) C dX11_readAs_9 ?_
  refine g_iald (pc := 10) C (N := 240) 2 rfl rfl (Nat.le_of_ble_eq_true rfl) dX11_readAs_10 hf (fun hf => ?_)
  refine g_istore (pc := 11) C (lv' := [(4, .int (zI (mo_kindOf ((60 * v1) + v2).toNat))), (0, .ref (aMo 0)), (1, .int (zI v1)), (2, .int (zI v2)), (3, .int (zI v3))]) dX11_readAs_11 (Nat.le_of_ble_eq_true rfl) rfl ?_
  refine g_iload (pc := 13) C 0 dX11_readAs_13 rfl ?_
  refine g_iconst (pc := 15) C dX11_readAs_15 ?_
  refine g_icmp_ner (pc := 16) C (tgt := 29) dX11_readAs_16 (by decide) (by decide) hf (fun hf => ?_) (fun hf => ?_)
  · refine g_iload (pc := 29) C 0 dX11_readAs_29 rfl ?_
    refine g_iconst (pc := 31) C dX11_readAs_31 ?_
    refine g_icmp_ner (pc := 32) C (tgt := 65) dX11_readAs_32 (by decide) (by decide) hf (fun hf => ?_) (fun hf => ?_)
    · refine g_iload (pc := 65) C 0 dX11_readAs_65 rfl ?_
      cases hf
      exact g_iret (pc := 67) C E (fun _ => 0) [0, 1, 2] (by decide) rfl rfl (Nat.le_refl _) (Nat.le_refl _) dX11_readAs_67
    · refine g_aload_n (pc := 35) C 1 dX11_readAs_35 rfl rfl ?_
      refine g_iload_n (pc := 36) C 2 dX11_readAs_36 rfl rfl ?_
      refine g_iload_n (pc := 37) C 3 dX11_readAs_37 rfl rfl ?_
      refine g_iconst (pc := 38) C dX11_readAs_38 ?_
      refine g_isub (pc := 39) C dX11_readAs_39 ?_
      refine g_iload_n (pc := 40) C 4 dX11_readAs_40 rfl rfl ?_
      obtain ⟨r_41, hc_41, hf⟩ := Option.bind_eq_some_iff.mp hf
      refine g_callV (pc := 41) C hl0 (wr := []) (k' := 0) (n' := 0) (ws' := fun _ => [((aMo 0), .inr (11, [.ref (aMo 1), .int (zI mo_taped), .ref (aMo 3), .ref (aMo 4), .ref (aMo 5), .ref (aMo 6), .ref (aMo 7), .ref (aMo 8), .ref (aMo 9), .ref (aMo 10), .ref (aMo 11), .ref (aMo 12), .ref (aMo 13), .ref (aMo 14), .ref (aMo 15), .ref (aMo 16), .int (zI mo_size), .int (zI mo_runs), .ref (aMo 19), .ref (aMo 20), .ref (aMo 21), .int (zI mo_found), .int (zI mo_counted), .int (zI mo_isParted), .ref (aMo 25), .ref (aMo 26), .ref (aMo 27), .ref (aMo 28), .ref (aMo 29), .int (zI mo_maybes), .int (zI mo_days), .int (zI mo_over2), .int (zI mo_longer), .ref (aMo 34)])), ((aMo 5), .inl (ca 0, 4, .inl (zA mo_acts))), ((aMo 7), .inl (ca 0, 240, .inl (zA mo_kindOf)))]) (st' := [.int (zI r_41)]) (kX11_isRest l D ca aMo mo_taped mo_acts mo_kindOf mo_size mo_runs mo_found mo_counted mo_isParted mo_maybes mo_days mo_over2 mo_longer v1 (v2 - 1) v3 r_41 hc_41) wml_RX11_117 wim_X11_isRest wse_X11_isRest win_RX11 wco_X11_isRest (nA := 3) rfl (by decide +kernel)  ⟨(Nat.le_of_ble_eq_true rfl), (Nat.le_of_ble_eq_true rfl)⟩ (Nat.le_refl _) (Nat.le_refl _) rfl (by decide) dX11_readAs_41 0 11 rfl rfl rfl [0, 1, 2] [] rfl rfl rfl (by decide) (by decide) (by decide) rfl rfl (fun _ => rfl) rfl (fun _ => ?_)
      refine g_if_eq (pc := 44) C (tgt := 63) dX11_readAs_44 (by decide) hf (fun hf => ?_) (fun hf => ?_)
      · refine g_sub [0, 1, 2] [] (by decide) rfl rfl rfl ?_
        exact H63  hf
      · refine g_aload_n (pc := 47) C 1 dX11_readAs_47 rfl rfl ?_
        refine g_iload_n (pc := 48) C 2 dX11_readAs_48 rfl rfl ?_
        refine g_iload_n (pc := 49) C 3 dX11_readAs_49 rfl rfl ?_
        refine g_iconst (pc := 50) C dX11_readAs_50 ?_
        refine g_iadd (pc := 51) C dX11_readAs_51 ?_
        refine g_iload_n (pc := 52) C 4 dX11_readAs_52 rfl rfl ?_
        obtain ⟨r_53, hc_53, hf⟩ := Option.bind_eq_some_iff.mp hf
        refine g_callV (pc := 53) C hl0 (wr := []) (k' := 0) (n' := 0) (ws' := fun _ => [((aMo 0), .inr (11, [.ref (aMo 1), .int (zI mo_taped), .ref (aMo 3), .ref (aMo 4), .ref (aMo 5), .ref (aMo 6), .ref (aMo 7), .ref (aMo 8), .ref (aMo 9), .ref (aMo 10), .ref (aMo 11), .ref (aMo 12), .ref (aMo 13), .ref (aMo 14), .ref (aMo 15), .ref (aMo 16), .int (zI mo_size), .int (zI mo_runs), .ref (aMo 19), .ref (aMo 20), .ref (aMo 21), .int (zI mo_found), .int (zI mo_counted), .int (zI mo_isParted), .ref (aMo 25), .ref (aMo 26), .ref (aMo 27), .ref (aMo 28), .ref (aMo 29), .int (zI mo_maybes), .int (zI mo_days), .int (zI mo_over2), .int (zI mo_longer), .ref (aMo 34)])), ((aMo 5), .inl (ca 0, 4, .inl (zA mo_acts))), ((aMo 7), .inl (ca 0, 240, .inl (zA mo_kindOf)))]) (st' := [.int (zI r_53)]) (kX11_isRest l D ca aMo mo_taped mo_acts mo_kindOf mo_size mo_runs mo_found mo_counted mo_isParted mo_maybes mo_days mo_over2 mo_longer v1 (v2 + 1) v3 r_53 hc_53) wml_RX11_117 wim_X11_isRest wse_X11_isRest win_RX11 wco_X11_isRest (nA := 3) rfl (by decide +kernel)  ⟨(Nat.le_of_ble_eq_true rfl), (Nat.le_of_ble_eq_true rfl)⟩ (Nat.le_refl _) (Nat.le_refl _) rfl (by decide) dX11_readAs_53 0 11 rfl rfl rfl [0, 1, 2] [] rfl rfl rfl (by decide) (by decide) (by decide) rfl rfl (fun _ => rfl) rfl (fun _ => ?_)
        refine g_if_eq (pc := 56) C (tgt := 63) dX11_readAs_56 (by decide) hf (fun hf => ?_) (fun hf => ?_)
        · refine g_sub [0, 1, 2] [] (by decide) rfl rfl rfl ?_
          exact H63  hf
        · refine g_iconst (pc := 59) C dX11_readAs_59 ?_
          refine g_goto (pc := 60) C (tgt := 64) dX11_readAs_60 (by decide) ?_
          cases hf
          exact g_iret (pc := 64) C E (fun _ => 0) [0, 1, 2] (by decide) rfl rfl (Nat.le_refl _) (Nat.le_refl _) dX11_readAs_64
  · refine g_iload_n (pc := 19) C 4 dX11_readAs_19 rfl rfl ?_
    refine g_if_eq (pc := 20) C (tgt := 27) dX11_readAs_20 (by decide) hf (fun hf => ?_) (fun hf => ?_)
    · refine g_iconst (pc := 27) C dX11_readAs_27 ?_
      cases hf
      exact g_iret (pc := 28) C E (fun _ => 0) [0, 1, 2] (by decide) rfl rfl (Nat.le_refl _) (Nat.le_refl _) dX11_readAs_28
    · refine g_iconst (pc := 23) C dX11_readAs_23 ?_
      refine g_goto (pc := 24) C (tgt := 28) dX11_readAs_24 (by decide) ?_
      cases hf
      exact g_iret (pc := 28) C E (fun _ => 0) [0, 1, 2] (by decide) rfl rfl (Nat.le_refl _) (Nat.le_refl _) dX11_readAs_28
set_option maxRecDepth 100000 in
theorem kX11_lays (l : Launch) (D : va_G) (ca : Nat → ClassId) (aMo : Nat → Nat) (mo_taped : Int) (mo_acts : Nat → Int) (mo_kindOf : Nat → Int) (mo_lengthOf : Nat → Int) (mo_laid : Nat → Int) (mo_driven : Nat → Int) (mo_runFrom : Nat → Int) (mo_runTo : Nat → Int) (mo_size : Int) (mo_runs : Int) (mo_found : Int) (mo_counted : Int) (mo_isParted : Int) (mo_maybes : Int) (mo_days : Int) (mo_over2 : Int) (mo_longer : Int) (v1 : Int) (v2 : Int) (mo_laid_o : Nat → Int) (mo_driven_o : Nat → Int) (mo_runFrom_o : Nat → Int) (mo_runTo_o : Nat → Int) (mo_size_o : Int) (mo_runs_o : Int)
    (hf : fX11_lays v1 v2 mo_acts mo_kindOf mo_lengthOf mo_laid mo_driven mo_runFrom mo_runTo mo_size mo_runs = some (mo_laid_o, mo_driven_o, mo_runFrom_o, mo_runTo_o, mo_size_o, mo_runs_o)) : Zc l D ca yX11_lays cX11_lays 6 none { frames := 2, cells := 0, slots := 0, locals := 47 } [.ref (aMo 0), .int (zI v1), .int (zI v2)] [((aMo 0), .inr (11, [.ref (aMo 1), .int (zI mo_taped), .ref (aMo 3), .ref (aMo 4), .ref (aMo 5), .ref (aMo 6), .ref (aMo 7), .ref (aMo 8), .ref (aMo 9), .ref (aMo 10), .ref (aMo 11), .ref (aMo 12), .ref (aMo 13), .ref (aMo 14), .ref (aMo 15), .ref (aMo 16), .int (zI mo_size), .int (zI mo_runs), .ref (aMo 19), .ref (aMo 20), .ref (aMo 21), .int (zI mo_found), .int (zI mo_counted), .int (zI mo_isParted), .ref (aMo 25), .ref (aMo 26), .ref (aMo 27), .ref (aMo 28), .ref (aMo 29), .int (zI mo_maybes), .int (zI mo_days), .int (zI mo_over2), .int (zI mo_longer), .ref (aMo 34)])), ((aMo 5), .inl (ca 0, 4, .inl (zA mo_acts))), ((aMo 7), .inl (ca 0, 240, .inl (zA mo_kindOf))), ((aMo 8), .inl (ca 0, 240, .inl (zA mo_lengthOf))), ((aMo 13), .inl (ca 0, 20160, .inl (zA mo_laid))), ((aMo 14), .inl (ca 0, 20161, .inl (zA mo_driven))), ((aMo 15), .inl (ca 0, 60, .inl (zA mo_runFrom))), ((aMo 16), .inl (ca 0, 60, .inl (zA mo_runTo)))] none (fun _ => [((aMo 0), .inr (11, [.ref (aMo 1), .int (zI mo_taped), .ref (aMo 3), .ref (aMo 4), .ref (aMo 5), .ref (aMo 6), .ref (aMo 7), .ref (aMo 8), .ref (aMo 9), .ref (aMo 10), .ref (aMo 11), .ref (aMo 12), .ref (aMo 13), .ref (aMo 14), .ref (aMo 15), .ref (aMo 16), .int (zI mo_size_o), .int (zI mo_runs_o), .ref (aMo 19), .ref (aMo 20), .ref (aMo 21), .int (zI mo_found), .int (zI mo_counted), .int (zI mo_isParted), .ref (aMo 25), .ref (aMo 26), .ref (aMo 27), .ref (aMo 28), .ref (aMo 29), .int (zI mo_maybes), .int (zI mo_days), .int (zI mo_over2), .int (zI mo_longer), .ref (aMo 34)])), ((aMo 5), .inl (ca 0, 4, .inl (zA mo_acts))), ((aMo 7), .inl (ca 0, 240, .inl (zA mo_kindOf))), ((aMo 8), .inl (ca 0, 240, .inl (zA mo_lengthOf))), ((aMo 13), .inl (ca 0, 20160, .inl (zA mo_laid_o))), ((aMo 14), .inl (ca 0, 20161, .inl (zA mo_driven_o))), ((aMo 15), .inl (ca 0, 60, .inl (zA mo_runFrom_o))), ((aMo 16), .inl (ca 0, 60, .inl (zA mo_runTo_o)))]) := by
  refine ctr_of (lv := [(0, .ref (aMo 0)), (1, .int (zI v1)), (2, .int (zI v2))]) (by decide +kernel) (Nat.le_of_ble_eq_true rfl) rfl (fun Γ hl0 C E hnm => ?_)
  have H92 : ∀ (mo_laid : Nat → Int) (mo_size : Int) (n92 : Nat) (v3 : Int) (mo_driven : Nat → Int) (mo_runFrom : Nat → Int) (mo_runTo : Nat → Int) (mo_runs : Int), zlp (fX11_lays_92 mo_laid mo_size) n92 (v3, mo_driven, mo_runFrom, mo_runTo, mo_runs) = some (mo_laid_o, mo_driven_o, mo_runFrom_o, mo_runTo_o, mo_size_o, mo_runs_o) → Zd D Γ 0 0 [((aMo 0), .inr (11, [.ref (aMo 1), .int (zI mo_taped), .ref (aMo 3), .ref (aMo 4), .ref (aMo 5), .ref (aMo 6), .ref (aMo 7), .ref (aMo 8), .ref (aMo 9), .ref (aMo 10), .ref (aMo 11), .ref (aMo 12), .ref (aMo 13), .ref (aMo 14), .ref (aMo 15), .ref (aMo 16), .int (zI mo_size), .int (zI mo_runs), .ref (aMo 19), .ref (aMo 20), .ref (aMo 21), .int (zI mo_found), .int (zI mo_counted), .int (zI mo_isParted), .ref (aMo 25), .ref (aMo 26), .ref (aMo 27), .ref (aMo 28), .ref (aMo 29), .int (zI mo_maybes), .int (zI mo_days), .int (zI mo_over2), .int (zI mo_longer), .ref (aMo 34)])), ((aMo 5), .inl (ca 0, 4, .inl (zA mo_acts))), ((aMo 7), .inl (ca 0, 240, .inl (zA mo_kindOf))), ((aMo 8), .inl (ca 0, 240, .inl (zA mo_lengthOf))), ((aMo 13), .inl (ca 0, 20160, .inl (zA mo_laid))), ((aMo 14), .inl (ca 0, 20161, .inl (zA mo_driven))), ((aMo 15), .inl (ca 0, 60, .inl (zA mo_runFrom))), ((aMo 16), .inl (ca 0, 60, .inl (zA mo_runTo)))] 92 [(0, .ref (aMo 0)), (3, .int (zI v3))] [] := by
    intro mo_laid mo_size
    intro n92
    induction n92 with
    | zero =>
      intro v3 mo_driven mo_runFrom mo_runTo mo_runs hf
      exact zno hf
    | succ n92 ih92 =>
      have H192 : ∀ (v3 : Int) (mo_laid : Nat → Int) (mo_driven : Nat → Int) (mo_runFrom : Nat → Int) (mo_runTo : Nat → Int) (mo_size : Int) (mo_runs : Int), fX11_lays_192 (zlp (fX11_lays_92 mo_laid mo_size) n92) v3 mo_driven mo_runFrom mo_runTo mo_runs = some (mo_laid_o, mo_driven_o, mo_runFrom_o, mo_runTo_o, mo_size_o, mo_runs_o) → Zd D Γ 0 0 [((aMo 0), .inr (11, [.ref (aMo 1), .int (zI mo_taped), .ref (aMo 3), .ref (aMo 4), .ref (aMo 5), .ref (aMo 6), .ref (aMo 7), .ref (aMo 8), .ref (aMo 9), .ref (aMo 10), .ref (aMo 11), .ref (aMo 12), .ref (aMo 13), .ref (aMo 14), .ref (aMo 15), .ref (aMo 16), .int (zI mo_size), .int (zI mo_runs), .ref (aMo 19), .ref (aMo 20), .ref (aMo 21), .int (zI mo_found), .int (zI mo_counted), .int (zI mo_isParted), .ref (aMo 25), .ref (aMo 26), .ref (aMo 27), .ref (aMo 28), .ref (aMo 29), .int (zI mo_maybes), .int (zI mo_days), .int (zI mo_over2), .int (zI mo_longer), .ref (aMo 34)])), ((aMo 5), .inl (ca 0, 4, .inl (zA mo_acts))), ((aMo 7), .inl (ca 0, 240, .inl (zA mo_kindOf))), ((aMo 8), .inl (ca 0, 240, .inl (zA mo_lengthOf))), ((aMo 13), .inl (ca 0, 20160, .inl (zA mo_laid))), ((aMo 14), .inl (ca 0, 20161, .inl (zA mo_driven))), ((aMo 15), .inl (ca 0, 60, .inl (zA mo_runFrom))), ((aMo 16), .inl (ca 0, 60, .inl (zA mo_runTo)))] 192 [(0, .ref (aMo 0)), (3, .int (zI v3))] [] := by
        intro v3 mo_laid mo_driven mo_runFrom mo_runTo mo_size mo_runs hf
        unfold fX11_lays_192 at hf
        refine g_iinc (pc := 192) C 1 (lv' := [(3, .int (zI (v3 + 1))), (0, .ref (aMo 0))]) dX11_lays_192 rfl (Nat.le_of_ble_eq_true rfl) rfl ?_
        refine g_goto (pc := 195) C (tgt := 92) dX11_lays_195 (by decide) ?_
        refine g_sub [0, 1, 2, 3, 4, 5, 6, 7] [1, 0] (by decide) rfl rfl rfl ?_
        exact ih92 _ _ _ _ _ hf
      have H178 : ∀ (v3 : Int) (mo_laid : Nat → Int) (mo_driven : Nat → Int) (mo_runFrom : Nat → Int) (mo_runTo : Nat → Int) (mo_size : Int) (mo_runs : Int), fX11_lays_178 (zlp (fX11_lays_92 mo_laid mo_size) n92) v3 mo_driven mo_runFrom mo_runTo mo_runs = some (mo_laid_o, mo_driven_o, mo_runFrom_o, mo_runTo_o, mo_size_o, mo_runs_o) → Zd D Γ 0 0 [((aMo 0), .inr (11, [.ref (aMo 1), .int (zI mo_taped), .ref (aMo 3), .ref (aMo 4), .ref (aMo 5), .ref (aMo 6), .ref (aMo 7), .ref (aMo 8), .ref (aMo 9), .ref (aMo 10), .ref (aMo 11), .ref (aMo 12), .ref (aMo 13), .ref (aMo 14), .ref (aMo 15), .ref (aMo 16), .int (zI mo_size), .int (zI mo_runs), .ref (aMo 19), .ref (aMo 20), .ref (aMo 21), .int (zI mo_found), .int (zI mo_counted), .int (zI mo_isParted), .ref (aMo 25), .ref (aMo 26), .ref (aMo 27), .ref (aMo 28), .ref (aMo 29), .int (zI mo_maybes), .int (zI mo_days), .int (zI mo_over2), .int (zI mo_longer), .ref (aMo 34)])), ((aMo 5), .inl (ca 0, 4, .inl (zA mo_acts))), ((aMo 7), .inl (ca 0, 240, .inl (zA mo_kindOf))), ((aMo 8), .inl (ca 0, 240, .inl (zA mo_lengthOf))), ((aMo 13), .inl (ca 0, 20160, .inl (zA mo_laid))), ((aMo 14), .inl (ca 0, 20161, .inl (zA mo_driven))), ((aMo 15), .inl (ca 0, 60, .inl (zA mo_runFrom))), ((aMo 16), .inl (ca 0, 60, .inl (zA mo_runTo)))] 178 [(0, .ref (aMo 0)), (3, .int (zI v3))] [] := by
        intro v3 mo_laid mo_driven mo_runFrom mo_runTo mo_size mo_runs hf
        unfold fX11_lays_178 at hf
        refine g_aload_n (pc := 178) C 0 dX11_lays_178 rfl rfl ?_
        refine g_get (pc := 179) C zf_X11_53 0 rfl rfl dX11_lays_179 ?_
        refine g_aload_n (pc := 182) C 0 dX11_lays_182 rfl rfl ?_
        refine g_get (pc := 183) C zf_X11_128 0 rfl rfl dX11_lays_183 ?_
        refine g_iconst (pc := 186) C dX11_lays_186 ?_
        refine g_isub (pc := 187) C dX11_lays_187 ?_
        refine g_iload_n (pc := 188) C 1 dX11_lays_188 rfl rfl ?_
        refine g_iconst (pc := 189) C dX11_lays_189 ?_
        refine g_iadd (pc := 190) C dX11_lays_190 ?_
        refine g_iast (pc := 191) C (N := 60) (ws' := [((aMo 0), .inr (11, [.ref (aMo 1), .int (zI mo_taped), .ref (aMo 3), .ref (aMo 4), .ref (aMo 5), .ref (aMo 6), .ref (aMo 7), .ref (aMo 8), .ref (aMo 9), .ref (aMo 10), .ref (aMo 11), .ref (aMo 12), .ref (aMo 13), .ref (aMo 14), .ref (aMo 15), .ref (aMo 16), .int (zI mo_size), .int (zI mo_runs), .ref (aMo 19), .ref (aMo 20), .ref (aMo 21), .int (zI mo_found), .int (zI mo_counted), .int (zI mo_isParted), .ref (aMo 25), .ref (aMo 26), .ref (aMo 27), .ref (aMo 28), .ref (aMo 29), .int (zI mo_maybes), .int (zI mo_days), .int (zI mo_over2), .int (zI mo_longer), .ref (aMo 34)])), ((aMo 5), .inl (ca 0, 4, .inl (zA mo_acts))), ((aMo 7), .inl (ca 0, 240, .inl (zA mo_kindOf))), ((aMo 8), .inl (ca 0, 240, .inl (zA mo_lengthOf))), ((aMo 13), .inl (ca 0, 20160, .inl (zA mo_laid))), ((aMo 14), .inl (ca 0, 20161, .inl (zA mo_driven))), ((aMo 15), .inl (ca 0, 60, .inl (zA mo_runFrom))), ((aMo 16), .inl (ca 0, 60, .inl (zA (zU mo_runTo (mo_runs - 1).toNat (v3 + 1)))))]) 7 rfl rfl (Nat.le_of_ble_eq_true rfl) rfl dX11_lays_191 hf (fun hf => ?_)
        exact H192 _ _ _ _ _ _ _ hf
      have H158 : ∀ (v3 : Int) (mo_laid : Nat → Int) (mo_driven : Nat → Int) (mo_runFrom : Nat → Int) (mo_runTo : Nat → Int) (mo_size : Int) (mo_runs : Int), fX11_lays_158 (zlp (fX11_lays_92 mo_laid mo_size) n92) v3 mo_driven mo_runFrom mo_runTo mo_runs = some (mo_laid_o, mo_driven_o, mo_runFrom_o, mo_runTo_o, mo_size_o, mo_runs_o) → Zd D Γ 0 0 [((aMo 0), .inr (11, [.ref (aMo 1), .int (zI mo_taped), .ref (aMo 3), .ref (aMo 4), .ref (aMo 5), .ref (aMo 6), .ref (aMo 7), .ref (aMo 8), .ref (aMo 9), .ref (aMo 10), .ref (aMo 11), .ref (aMo 12), .ref (aMo 13), .ref (aMo 14), .ref (aMo 15), .ref (aMo 16), .int (zI mo_size), .int (zI mo_runs), .ref (aMo 19), .ref (aMo 20), .ref (aMo 21), .int (zI mo_found), .int (zI mo_counted), .int (zI mo_isParted), .ref (aMo 25), .ref (aMo 26), .ref (aMo 27), .ref (aMo 28), .ref (aMo 29), .int (zI mo_maybes), .int (zI mo_days), .int (zI mo_over2), .int (zI mo_longer), .ref (aMo 34)])), ((aMo 5), .inl (ca 0, 4, .inl (zA mo_acts))), ((aMo 7), .inl (ca 0, 240, .inl (zA mo_kindOf))), ((aMo 8), .inl (ca 0, 240, .inl (zA mo_lengthOf))), ((aMo 13), .inl (ca 0, 20160, .inl (zA mo_laid))), ((aMo 14), .inl (ca 0, 20161, .inl (zA mo_driven))), ((aMo 15), .inl (ca 0, 60, .inl (zA mo_runFrom))), ((aMo 16), .inl (ca 0, 60, .inl (zA mo_runTo)))] 158 [(0, .ref (aMo 0)), (3, .int (zI v3))] [] := by
        intro v3 mo_laid mo_driven mo_runFrom mo_runTo mo_size mo_runs hf
        unfold fX11_lays_158 at hf
        refine g_aload_n (pc := 158) C 0 dX11_lays_158 rfl rfl ?_
        refine g_get (pc := 159) C zf_X11_50 0 rfl rfl dX11_lays_159 ?_
        refine g_aload_n (pc := 162) C 0 dX11_lays_162 rfl rfl ?_
        refine g_get (pc := 163) C zf_X11_128 0 rfl rfl dX11_lays_163 ?_
        refine g_iload_n (pc := 166) C 1 dX11_lays_166 rfl rfl ?_
        refine g_iast (pc := 167) C (N := 60) (ws' := [((aMo 0), .inr (11, [.ref (aMo 1), .int (zI mo_taped), .ref (aMo 3), .ref (aMo 4), .ref (aMo 5), .ref (aMo 6), .ref (aMo 7), .ref (aMo 8), .ref (aMo 9), .ref (aMo 10), .ref (aMo 11), .ref (aMo 12), .ref (aMo 13), .ref (aMo 14), .ref (aMo 15), .ref (aMo 16), .int (zI mo_size), .int (zI mo_runs), .ref (aMo 19), .ref (aMo 20), .ref (aMo 21), .int (zI mo_found), .int (zI mo_counted), .int (zI mo_isParted), .ref (aMo 25), .ref (aMo 26), .ref (aMo 27), .ref (aMo 28), .ref (aMo 29), .int (zI mo_maybes), .int (zI mo_days), .int (zI mo_over2), .int (zI mo_longer), .ref (aMo 34)])), ((aMo 5), .inl (ca 0, 4, .inl (zA mo_acts))), ((aMo 7), .inl (ca 0, 240, .inl (zA mo_kindOf))), ((aMo 8), .inl (ca 0, 240, .inl (zA mo_lengthOf))), ((aMo 13), .inl (ca 0, 20160, .inl (zA mo_laid))), ((aMo 14), .inl (ca 0, 20161, .inl (zA mo_driven))), ((aMo 15), .inl (ca 0, 60, .inl (zA (zU mo_runFrom mo_runs.toNat v3)))), ((aMo 16), .inl (ca 0, 60, .inl (zA mo_runTo)))]) 6 rfl rfl (Nat.le_of_ble_eq_true rfl) rfl dX11_lays_167 hf (fun hf => ?_)
        refine g_aload_n (pc := 168) C 0 dX11_lays_168 rfl rfl ?_
        refine g_aload_n (pc := 169) C 0 dX11_lays_169 rfl rfl ?_
        refine g_get (pc := 170) C zf_X11_128 0 rfl rfl dX11_lays_170 ?_
        refine g_iconst (pc := 173) C dX11_lays_173 ?_
        refine g_iadd (pc := 174) C dX11_lays_174 ?_
        refine g_put (pc := 175) C zf_X11_128 tyX11 tyX11_ok nmX11 (v := .int (zI (mo_runs + 1))) (ws' := [((aMo 0), .inr (11, [.ref (aMo 1), .int (zI mo_taped), .ref (aMo 3), .ref (aMo 4), .ref (aMo 5), .ref (aMo 6), .ref (aMo 7), .ref (aMo 8), .ref (aMo 9), .ref (aMo 10), .ref (aMo 11), .ref (aMo 12), .ref (aMo 13), .ref (aMo 14), .ref (aMo 15), .ref (aMo 16), .int (zI mo_size), .int (zI (mo_runs + 1)), .ref (aMo 19), .ref (aMo 20), .ref (aMo 21), .int (zI mo_found), .int (zI mo_counted), .int (zI mo_isParted), .ref (aMo 25), .ref (aMo 26), .ref (aMo 27), .ref (aMo 28), .ref (aMo 29), .int (zI mo_maybes), .int (zI mo_days), .int (zI mo_over2), .int (zI mo_longer), .ref (aMo 34)])), ((aMo 5), .inl (ca 0, 4, .inl (zA mo_acts))), ((aMo 7), .inl (ca 0, 240, .inl (zA mo_kindOf))), ((aMo 8), .inl (ca 0, 240, .inl (zA mo_lengthOf))), ((aMo 13), .inl (ca 0, 20160, .inl (zA mo_laid))), ((aMo 14), .inl (ca 0, 20161, .inl (zA mo_driven))), ((aMo 15), .inl (ca 0, 60, .inl (zA (zU mo_runFrom mo_runs.toNat v3)))), ((aMo 16), .inl (ca 0, 60, .inl (zA mo_runTo)))]) 0 rfl rfl rfl rfl rfl (Nat.le_of_ble_eq_true rfl) rfl rfl dX11_lays_175 ?_
        exact H178 _ _ _ _ _ _ _ hf
      have H127 : ∀ (v3 : Int) (s1 : Int) (s2 : Int) (s3 : Int) (mo_laid : Nat → Int) (mo_driven : Nat → Int) (mo_runFrom : Nat → Int) (mo_runTo : Nat → Int) (mo_size : Int) (mo_runs : Int), fX11_lays_127 (zlp (fX11_lays_92 mo_laid mo_size) n92) v3 s1 s2 s3 mo_laid mo_driven mo_runFrom mo_runTo mo_runs = some (mo_laid_o, mo_driven_o, mo_runFrom_o, mo_runTo_o, mo_size_o, mo_runs_o) → Zd D Γ 0 0 [((aMo 0), .inr (11, [.ref (aMo 1), .int (zI mo_taped), .ref (aMo 3), .ref (aMo 4), .ref (aMo 5), .ref (aMo 6), .ref (aMo 7), .ref (aMo 8), .ref (aMo 9), .ref (aMo 10), .ref (aMo 11), .ref (aMo 12), .ref (aMo 13), .ref (aMo 14), .ref (aMo 15), .ref (aMo 16), .int (zI mo_size), .int (zI mo_runs), .ref (aMo 19), .ref (aMo 20), .ref (aMo 21), .int (zI mo_found), .int (zI mo_counted), .int (zI mo_isParted), .ref (aMo 25), .ref (aMo 26), .ref (aMo 27), .ref (aMo 28), .ref (aMo 29), .int (zI mo_maybes), .int (zI mo_days), .int (zI mo_over2), .int (zI mo_longer), .ref (aMo 34)])), ((aMo 5), .inl (ca 0, 4, .inl (zA mo_acts))), ((aMo 7), .inl (ca 0, 240, .inl (zA mo_kindOf))), ((aMo 8), .inl (ca 0, 240, .inl (zA mo_lengthOf))), ((aMo 13), .inl (ca 0, 20160, .inl (zA mo_laid))), ((aMo 14), .inl (ca 0, 20161, .inl (zA mo_driven))), ((aMo 15), .inl (ca 0, 60, .inl (zA mo_runFrom))), ((aMo 16), .inl (ca 0, 60, .inl (zA mo_runTo)))] 127 [(0, .ref (aMo 0)), (3, .int (zI v3))] [.int (zI s3), .int (zI s2), .int (zI s1), .ref (aMo 14)] := by
        intro v3 s1 s2 s3 mo_laid mo_driven mo_runFrom mo_runTo mo_size mo_runs hf
        unfold fX11_lays_127 at hf
        refine g_iadd (pc := 127) C dX11_lays_127 ?_
        refine g_iast (pc := 128) C (N := 20161) (ws' := [((aMo 0), .inr (11, [.ref (aMo 1), .int (zI mo_taped), .ref (aMo 3), .ref (aMo 4), .ref (aMo 5), .ref (aMo 6), .ref (aMo 7), .ref (aMo 8), .ref (aMo 9), .ref (aMo 10), .ref (aMo 11), .ref (aMo 12), .ref (aMo 13), .ref (aMo 14), .ref (aMo 15), .ref (aMo 16), .int (zI mo_size), .int (zI mo_runs), .ref (aMo 19), .ref (aMo 20), .ref (aMo 21), .int (zI mo_found), .int (zI mo_counted), .int (zI mo_isParted), .ref (aMo 25), .ref (aMo 26), .ref (aMo 27), .ref (aMo 28), .ref (aMo 29), .int (zI mo_maybes), .int (zI mo_days), .int (zI mo_over2), .int (zI mo_longer), .ref (aMo 34)])), ((aMo 5), .inl (ca 0, 4, .inl (zA mo_acts))), ((aMo 7), .inl (ca 0, 240, .inl (zA mo_kindOf))), ((aMo 8), .inl (ca 0, 240, .inl (zA mo_lengthOf))), ((aMo 13), .inl (ca 0, 20160, .inl (zA mo_laid))), ((aMo 14), .inl (ca 0, 20161, .inl (zA (zU mo_driven s1.toNat (s2 + s3))))), ((aMo 15), .inl (ca 0, 60, .inl (zA mo_runFrom))), ((aMo 16), .inl (ca 0, 60, .inl (zA mo_runTo)))]) 5 rfl rfl (Nat.le_of_ble_eq_true rfl) rfl dX11_lays_128 hf (fun hf => ?_)
        refine g_aload_n (pc := 129) C 0 dX11_lays_129 rfl rfl ?_
        refine g_get (pc := 130) C zf_X11_44 0 rfl rfl dX11_lays_130 ?_
        refine g_iload_n (pc := 133) C 1 dX11_lays_133 rfl rfl ?_
        refine g_iald (pc := 134) C (N := 20160) 4 rfl rfl (Nat.le_of_ble_eq_true rfl) dX11_lays_134 hf (fun hf => ?_)
        refine g_iconst (pc := 135) C dX11_lays_135 ?_
        refine g_icmp_eqr (pc := 136) C (tgt := 142) dX11_lays_136 (by decide) (by decide) hf (fun hf => ?_) (fun hf => ?_)
        · refine g_iload_n (pc := 142) C 1 dX11_lays_142 rfl rfl ?_
          refine g_if_eq (pc := 143) C (tgt := 158) dX11_lays_143 (by decide) hf (fun hf => ?_) (fun hf => ?_)
          · exact H158 _ _ _ _ _ _ _ hf
          · refine g_aload_n (pc := 146) C 0 dX11_lays_146 rfl rfl ?_
            refine g_get (pc := 147) C zf_X11_44 0 rfl rfl dX11_lays_147 ?_
            refine g_iload_n (pc := 150) C 1 dX11_lays_150 rfl rfl ?_
            refine g_iconst (pc := 151) C dX11_lays_151 ?_
            refine g_isub (pc := 152) C dX11_lays_152 ?_
            refine g_iald (pc := 153) C (N := 20160) 4 rfl rfl (Nat.le_of_ble_eq_true rfl) dX11_lays_153 hf (fun hf => ?_)
            refine g_iconst (pc := 154) C dX11_lays_154 ?_
            refine g_icmp_eqr (pc := 155) C (tgt := 178) dX11_lays_155 (by decide) (by decide) hf (fun hf => ?_) (fun hf => ?_)
            · exact H178 _ _ _ _ _ _ _ hf
            · exact H158 _ _ _ _ _ _ _ hf
        · refine g_goto (pc := 139) C (tgt := 192) dX11_lays_139 (by decide) ?_
          exact H192 _ _ _ _ _ _ _ hf
      intro v3 mo_driven mo_runFrom mo_runTo mo_runs hf
      rw [zlp_s] at hf
      unfold fX11_lays_92 at hf
      dsimp only at hf
      refine g_iload_n (pc := 92) C 1 dX11_lays_92 rfl rfl ?_
      refine g_aload_n (pc := 93) C 0 dX11_lays_93 rfl rfl ?_
      refine g_get (pc := 94) C zf_X11_121 0 rfl rfl dX11_lays_94 ?_
      refine g_icmp_ge (pc := 97) C (tgt := 198) dX11_lays_97 (by decide) hf (fun hf => ?_) (fun hf => ?_)
      · cases hf
        exact g_vret (pc := 198) C E (fun _ => 0) [0, 1, 2, 3, 4, 5, 6, 7] (by decide) rfl rfl (Nat.le_refl _) (Nat.le_refl _) dX11_lays_198
      · refine g_aload_n (pc := 100) C 0 dX11_lays_100 rfl rfl ?_
        refine g_get (pc := 101) C zf_X11_47 0 rfl rfl dX11_lays_101 ?_
        refine g_iload_n (pc := 104) C 1 dX11_lays_104 rfl rfl ?_
        refine g_iconst (pc := 105) C dX11_lays_105 ?_
        refine g_iadd (pc := 106) C dX11_lays_106 ?_
        refine g_aload_n (pc := 107) C 0 dX11_lays_107 rfl rfl ?_
        refine g_get (pc := 108) C zf_X11_47 0 rfl rfl dX11_lays_108 ?_
        refine g_iload_n (pc := 111) C 1 dX11_lays_111 rfl rfl ?_
        refine g_iald (pc := 112) C (N := 20161) 5 rfl rfl (Nat.le_of_ble_eq_true rfl) dX11_lays_112 hf (fun hf => ?_)
        refine g_aload_n (pc := 113) C 0 dX11_lays_113 rfl rfl ?_
        refine g_get (pc := 114) C zf_X11_44 0 rfl rfl dX11_lays_114 ?_
        refine g_iload_n (pc := 117) C 1 dX11_lays_117 rfl rfl ?_
        refine g_iald (pc := 118) C (N := 20160) 4 rfl rfl (Nat.le_of_ble_eq_true rfl) dX11_lays_118 hf (fun hf => ?_)
        refine g_if_ne (pc := 119) C (tgt := 126) dX11_lays_119 (by decide) hf (fun hf => ?_) (fun hf => ?_)
        · refine g_iconst (pc := 126) C dX11_lays_126 ?_
          exact H127 _ _ _ _ _ _ _ _ _ _ hf
        · refine g_iconst (pc := 122) C dX11_lays_122 ?_
          refine g_goto (pc := 123) C (tgt := 127) dX11_lays_123 (by decide) ?_
          exact H127 _ _ _ _ _ _ _ _ _ _ hf
  have H7 : ∀ (mo_driven : Nat → Int) (mo_runFrom : Nat → Int) (mo_runTo : Nat → Int) (mo_runs : Int) (n7 : Nat) (v3 : Int) (mo_laid : Nat → Int) (mo_size : Int), zlp (fX11_lays_7 v1 v2 mo_acts mo_kindOf mo_lengthOf mo_driven mo_runFrom mo_runTo) n7 (v3, mo_laid, mo_size) = some (mo_laid_o, mo_driven_o, mo_runFrom_o, mo_runTo_o, mo_size_o, mo_runs_o) → Zd D Γ 0 0 [((aMo 0), .inr (11, [.ref (aMo 1), .int (zI mo_taped), .ref (aMo 3), .ref (aMo 4), .ref (aMo 5), .ref (aMo 6), .ref (aMo 7), .ref (aMo 8), .ref (aMo 9), .ref (aMo 10), .ref (aMo 11), .ref (aMo 12), .ref (aMo 13), .ref (aMo 14), .ref (aMo 15), .ref (aMo 16), .int (zI mo_size), .int (zI mo_runs), .ref (aMo 19), .ref (aMo 20), .ref (aMo 21), .int (zI mo_found), .int (zI mo_counted), .int (zI mo_isParted), .ref (aMo 25), .ref (aMo 26), .ref (aMo 27), .ref (aMo 28), .ref (aMo 29), .int (zI mo_maybes), .int (zI mo_days), .int (zI mo_over2), .int (zI mo_longer), .ref (aMo 34)])), ((aMo 5), .inl (ca 0, 4, .inl (zA mo_acts))), ((aMo 7), .inl (ca 0, 240, .inl (zA mo_kindOf))), ((aMo 8), .inl (ca 0, 240, .inl (zA mo_lengthOf))), ((aMo 13), .inl (ca 0, 20160, .inl (zA mo_laid))), ((aMo 14), .inl (ca 0, 20161, .inl (zA mo_driven))), ((aMo 15), .inl (ca 0, 60, .inl (zA mo_runFrom))), ((aMo 16), .inl (ca 0, 60, .inl (zA mo_runTo)))] 7 [(0, .ref (aMo 0)), (1, .int (zI v1)), (2, .int (zI v2)), (3, .int (zI v3))] [] := by
    intro mo_driven mo_runFrom mo_runTo mo_runs
    intro n7
    induction n7 with
    | zero =>
      intro v3 mo_laid mo_size hf
      exact zno hf
    | succ n7 ih7 =>
      have H29 : ∀ (v3 : Int) (v4 : Int) (mo_driven : Nat → Int) (mo_runFrom : Nat → Int) (mo_runTo : Nat → Int) (mo_runs : Int) (n29 : Nat) (v5 : Int) (mo_laid : Nat → Int) (mo_size : Int), zlp (fX11_lays_29 (zlp (fX11_lays_7 v1 v2 mo_acts mo_kindOf mo_lengthOf mo_driven mo_runFrom mo_runTo) n7) v1 v3 v4 mo_lengthOf) n29 (v5, mo_laid, mo_size) = some (mo_laid_o, mo_driven_o, mo_runFrom_o, mo_runTo_o, mo_size_o, mo_runs_o) → Zd D Γ 0 0 [((aMo 0), .inr (11, [.ref (aMo 1), .int (zI mo_taped), .ref (aMo 3), .ref (aMo 4), .ref (aMo 5), .ref (aMo 6), .ref (aMo 7), .ref (aMo 8), .ref (aMo 9), .ref (aMo 10), .ref (aMo 11), .ref (aMo 12), .ref (aMo 13), .ref (aMo 14), .ref (aMo 15), .ref (aMo 16), .int (zI mo_size), .int (zI mo_runs), .ref (aMo 19), .ref (aMo 20), .ref (aMo 21), .int (zI mo_found), .int (zI mo_counted), .int (zI mo_isParted), .ref (aMo 25), .ref (aMo 26), .ref (aMo 27), .ref (aMo 28), .ref (aMo 29), .int (zI mo_maybes), .int (zI mo_days), .int (zI mo_over2), .int (zI mo_longer), .ref (aMo 34)])), ((aMo 5), .inl (ca 0, 4, .inl (zA mo_acts))), ((aMo 7), .inl (ca 0, 240, .inl (zA mo_kindOf))), ((aMo 8), .inl (ca 0, 240, .inl (zA mo_lengthOf))), ((aMo 13), .inl (ca 0, 20160, .inl (zA mo_laid))), ((aMo 14), .inl (ca 0, 20161, .inl (zA mo_driven))), ((aMo 15), .inl (ca 0, 60, .inl (zA mo_runFrom))), ((aMo 16), .inl (ca 0, 60, .inl (zA mo_runTo)))] 29 [(0, .ref (aMo 0)), (1, .int (zI v1)), (2, .int (zI v2)), (3, .int (zI v3)), (4, .int (zI v4)), (5, .int (zI v5))] [] := by
        intro v3 v4 mo_driven mo_runFrom mo_runTo mo_runs
        intro n29
        induction n29 with
        | zero =>
          intro v5 mo_laid mo_size hf
          exact zno hf
        | succ n29 ih29 =>
          intro v5 mo_laid mo_size hf
          rw [zlp_s] at hf
          unfold fX11_lays_29 at hf
          dsimp only at hf
          refine g_iload (pc := 29) C 5 dX11_lays_29 rfl ?_
          refine g_aload_n (pc := 31) C 0 dX11_lays_31 rfl rfl ?_
          refine g_get (pc := 32) C zf_X11_29 0 rfl rfl dX11_lays_32 ?_
          refine g_bipush (pc := 35) C dX11_lays_35 (by decide) ?_
          refine g_iload_n (pc := 37) C 1 dX11_lays_37 rfl rfl ?_
          refine g_imul (pc := 38) C dX11_lays_38 ?_
          refine g_iload_n (pc := 39) C 3 dX11_lays_39 rfl rfl ?_
          refine g_iadd (pc := 40) C dX11_lays_40 ?_
          refine g_iald (pc := 41) C (N := 240) 3 rfl rfl (Nat.le_of_ble_eq_true rfl) dX11_lays_41 hf (fun hf => ?_)
          refine g_icmp_ge (pc := 42) C (tgt := 72) dX11_lays_42 (by decide) hf (fun hf => ?_) (fun hf => ?_)
          · refine g_iinc (pc := 72) C 3 (lv' := [(3, .int (zI (v3 + 1))), (0, .ref (aMo 0)), (1, .int (zI v1)), (2, .int (zI v2)), (4, .int (zI v4)), (5, .int (zI v5))]) dX11_lays_72 rfl (Nat.le_of_ble_eq_true rfl) rfl ?_
            refine g_goto (pc := 75) C (tgt := 7) dX11_lays_75 (by decide) ?_
            refine g_sub [0, 1, 2, 3, 4, 5, 6, 7] [1, 2, 3, 0] (by decide) rfl rfl rfl ?_
            exact ih7 _ _ _ hf
          · refine g_aload_n (pc := 45) C 0 dX11_lays_45 rfl rfl ?_
            refine g_get (pc := 46) C zf_X11_44 0 rfl rfl dX11_lays_46 ?_
            refine g_aload_n (pc := 49) C 0 dX11_lays_49 rfl rfl ?_
            refine g_get (pc := 50) C zf_X11_121 0 rfl rfl dX11_lays_50 ?_
            refine g_iload (pc := 53) C 4 dX11_lays_53 rfl ?_
            refine g_iast (pc := 55) C (N := 20160) (ws' := [((aMo 0), .inr (11, [.ref (aMo 1), .int (zI mo_taped), .ref (aMo 3), .ref (aMo 4), .ref (aMo 5), .ref (aMo 6), .ref (aMo 7), .ref (aMo 8), .ref (aMo 9), .ref (aMo 10), .ref (aMo 11), .ref (aMo 12), .ref (aMo 13), .ref (aMo 14), .ref (aMo 15), .ref (aMo 16), .int (zI mo_size), .int (zI mo_runs), .ref (aMo 19), .ref (aMo 20), .ref (aMo 21), .int (zI mo_found), .int (zI mo_counted), .int (zI mo_isParted), .ref (aMo 25), .ref (aMo 26), .ref (aMo 27), .ref (aMo 28), .ref (aMo 29), .int (zI mo_maybes), .int (zI mo_days), .int (zI mo_over2), .int (zI mo_longer), .ref (aMo 34)])), ((aMo 5), .inl (ca 0, 4, .inl (zA mo_acts))), ((aMo 7), .inl (ca 0, 240, .inl (zA mo_kindOf))), ((aMo 8), .inl (ca 0, 240, .inl (zA mo_lengthOf))), ((aMo 13), .inl (ca 0, 20160, .inl (zA (zU mo_laid mo_size.toNat v4)))), ((aMo 14), .inl (ca 0, 20161, .inl (zA mo_driven))), ((aMo 15), .inl (ca 0, 60, .inl (zA mo_runFrom))), ((aMo 16), .inl (ca 0, 60, .inl (zA mo_runTo)))]) 4 rfl rfl (Nat.le_of_ble_eq_true rfl) rfl dX11_lays_55 hf (fun hf => ?_)
            refine g_aload_n (pc := 56) C 0 dX11_lays_56 rfl rfl ?_
            refine g_aload_n (pc := 57) C 0 dX11_lays_57 rfl rfl ?_
            refine g_get (pc := 58) C zf_X11_121 0 rfl rfl dX11_lays_58 ?_
            refine g_iconst (pc := 61) C dX11_lays_61 ?_
            refine g_iadd (pc := 62) C dX11_lays_62 ?_
            refine g_put (pc := 63) C zf_X11_121 tyX11 tyX11_ok nmX11 (v := .int (zI (mo_size + 1))) (ws' := [((aMo 0), .inr (11, [.ref (aMo 1), .int (zI mo_taped), .ref (aMo 3), .ref (aMo 4), .ref (aMo 5), .ref (aMo 6), .ref (aMo 7), .ref (aMo 8), .ref (aMo 9), .ref (aMo 10), .ref (aMo 11), .ref (aMo 12), .ref (aMo 13), .ref (aMo 14), .ref (aMo 15), .ref (aMo 16), .int (zI (mo_size + 1)), .int (zI mo_runs), .ref (aMo 19), .ref (aMo 20), .ref (aMo 21), .int (zI mo_found), .int (zI mo_counted), .int (zI mo_isParted), .ref (aMo 25), .ref (aMo 26), .ref (aMo 27), .ref (aMo 28), .ref (aMo 29), .int (zI mo_maybes), .int (zI mo_days), .int (zI mo_over2), .int (zI mo_longer), .ref (aMo 34)])), ((aMo 5), .inl (ca 0, 4, .inl (zA mo_acts))), ((aMo 7), .inl (ca 0, 240, .inl (zA mo_kindOf))), ((aMo 8), .inl (ca 0, 240, .inl (zA mo_lengthOf))), ((aMo 13), .inl (ca 0, 20160, .inl (zA (zU mo_laid mo_size.toNat v4)))), ((aMo 14), .inl (ca 0, 20161, .inl (zA mo_driven))), ((aMo 15), .inl (ca 0, 60, .inl (zA mo_runFrom))), ((aMo 16), .inl (ca 0, 60, .inl (zA mo_runTo)))]) 0 rfl rfl rfl rfl rfl (Nat.le_of_ble_eq_true rfl) rfl rfl dX11_lays_63 ?_
            refine g_iinc (pc := 66) C 5 (lv' := [(5, .int (zI (v5 + 1))), (0, .ref (aMo 0)), (1, .int (zI v1)), (2, .int (zI v2)), (3, .int (zI v3)), (4, .int (zI v4))]) dX11_lays_66 rfl (Nat.le_of_ble_eq_true rfl) rfl ?_
            refine g_goto (pc := 69) C (tgt := 29) dX11_lays_69 (by decide) ?_
            refine g_sub [0, 1, 2, 3, 4, 5, 6, 7] [1, 2, 3, 4, 5, 0] (by decide) rfl rfl rfl ?_
            exact ih29 _ _ _ hf
      intro v3 mo_laid mo_size hf
      rw [zlp_s] at hf
      unfold fX11_lays_7 at hf
      dsimp only at hf
      refine g_iload_n (pc := 7) C 3 dX11_lays_7 rfl rfl ?_
      refine g_aload_n (pc := 8) C 0 dX11_lays_8 rfl rfl ?_
      refine g_get (pc := 9) C zf_X11_20 0 rfl rfl dX11_lays_9 ?_
      refine g_iload_n (pc := 12) C 1 dX11_lays_12 rfl rfl ?_
      refine g_iald (pc := 13) C (N := 4) 1 rfl rfl (Nat.le_of_ble_eq_true rfl) dX11_lays_13 hf (fun hf => ?_)
      refine g_icmp_ge (pc := 14) C (tgt := 78) dX11_lays_14 (by decide) hf (fun hf => ?_) (fun hf => ?_)
      · refine g_aload_n (pc := 78) C 0 dX11_lays_78 rfl rfl ?_
        refine g_get (pc := 79) C zf_X11_47 0 rfl rfl dX11_lays_79 ?_
        refine g_iconst (pc := 82) C dX11_lays_82 ?_
        refine g_iconst (pc := 83) C dX11_lays_83 ?_
        refine g_iastK (pc := 84) C (ws' := [((aMo 0), .inr (11, [.ref (aMo 1), .int (zI mo_taped), .ref (aMo 3), .ref (aMo 4), .ref (aMo 5), .ref (aMo 6), .ref (aMo 7), .ref (aMo 8), .ref (aMo 9), .ref (aMo 10), .ref (aMo 11), .ref (aMo 12), .ref (aMo 13), .ref (aMo 14), .ref (aMo 15), .ref (aMo 16), .int (zI mo_size), .int (zI mo_runs), .ref (aMo 19), .ref (aMo 20), .ref (aMo 21), .int (zI mo_found), .int (zI mo_counted), .int (zI mo_isParted), .ref (aMo 25), .ref (aMo 26), .ref (aMo 27), .ref (aMo 28), .ref (aMo 29), .int (zI mo_maybes), .int (zI mo_days), .int (zI mo_over2), .int (zI mo_longer), .ref (aMo 34)])), ((aMo 5), .inl (ca 0, 4, .inl (zA mo_acts))), ((aMo 7), .inl (ca 0, 240, .inl (zA mo_kindOf))), ((aMo 8), .inl (ca 0, 240, .inl (zA mo_lengthOf))), ((aMo 13), .inl (ca 0, 20160, .inl (zA mo_laid))), ((aMo 14), .inl (ca 0, 20161, .inl (zA (zU mo_driven 0 0)))), ((aMo 15), .inl (ca 0, 60, .inl (zA mo_runFrom))), ((aMo 16), .inl (ca 0, 60, .inl (zA mo_runTo)))]) 0 5 rfl rfl (Nat.le_of_ble_eq_true rfl) (Nat.le_of_ble_eq_true rfl) rfl dX11_lays_84 ?_
        refine g_aload_n (pc := 85) C 0 dX11_lays_85 rfl rfl ?_
        refine g_iconst (pc := 86) C dX11_lays_86 ?_
        refine g_put (pc := 87) C zf_X11_128 tyX11 tyX11_ok nmX11 (v := .int (zI 0)) (ws' := [((aMo 0), .inr (11, [.ref (aMo 1), .int (zI mo_taped), .ref (aMo 3), .ref (aMo 4), .ref (aMo 5), .ref (aMo 6), .ref (aMo 7), .ref (aMo 8), .ref (aMo 9), .ref (aMo 10), .ref (aMo 11), .ref (aMo 12), .ref (aMo 13), .ref (aMo 14), .ref (aMo 15), .ref (aMo 16), .int (zI mo_size), .int (zI 0), .ref (aMo 19), .ref (aMo 20), .ref (aMo 21), .int (zI mo_found), .int (zI mo_counted), .int (zI mo_isParted), .ref (aMo 25), .ref (aMo 26), .ref (aMo 27), .ref (aMo 28), .ref (aMo 29), .int (zI mo_maybes), .int (zI mo_days), .int (zI mo_over2), .int (zI mo_longer), .ref (aMo 34)])), ((aMo 5), .inl (ca 0, 4, .inl (zA mo_acts))), ((aMo 7), .inl (ca 0, 240, .inl (zA mo_kindOf))), ((aMo 8), .inl (ca 0, 240, .inl (zA mo_lengthOf))), ((aMo 13), .inl (ca 0, 20160, .inl (zA mo_laid))), ((aMo 14), .inl (ca 0, 20161, .inl (zA (zU mo_driven 0 0)))), ((aMo 15), .inl (ca 0, 60, .inl (zA mo_runFrom))), ((aMo 16), .inl (ca 0, 60, .inl (zA mo_runTo)))]) 0 rfl rfl rfl rfl rfl (Nat.le_of_ble_eq_true rfl) rfl rfl dX11_lays_87 ?_
        refine g_iconst (pc := 90) C dX11_lays_90 ?_
        refine g_istore_n (pc := 91) C (lv' := [(3, .int (zI 0)), (0, .ref (aMo 0)), (1, .int (zI v1)), (2, .int (zI v2))]) dX11_lays_91 rfl (Nat.le_of_ble_eq_true rfl) rfl ?_
        refine g_sub [0, 1, 2, 3, 4, 5, 6, 7] [1, 0] (by decide) rfl rfl rfl ?_
        exact H92 _ _ _ _ _ _ _ _ hf
      · refine g_aload_n (pc := 17) C 0 dX11_lays_17 rfl rfl ?_
        refine g_iload_n (pc := 18) C 1 dX11_lays_18 rfl rfl ?_
        refine g_iload_n (pc := 19) C 3 dX11_lays_19 rfl rfl ?_
        refine g_iload_n (pc := 20) C 2 dX11_lays_20 rfl rfl ?_
        obtain ⟨r_21, hc_21, hf⟩ := Option.bind_eq_some_iff.mp hf
        refine g_callV (pc := 21) C hl0 (wr := [((aMo 8), .inl (ca 0, 240, .inl (zA mo_lengthOf))), ((aMo 13), .inl (ca 0, 20160, .inl (zA mo_laid))), ((aMo 14), .inl (ca 0, 20161, .inl (zA mo_driven))), ((aMo 15), .inl (ca 0, 60, .inl (zA mo_runFrom))), ((aMo 16), .inl (ca 0, 60, .inl (zA mo_runTo)))]) (k' := 0) (n' := 0) (ws' := fun _ => [((aMo 8), .inl (ca 0, 240, .inl (zA mo_lengthOf))), ((aMo 13), .inl (ca 0, 20160, .inl (zA mo_laid))), ((aMo 14), .inl (ca 0, 20161, .inl (zA mo_driven))), ((aMo 15), .inl (ca 0, 60, .inl (zA mo_runFrom))), ((aMo 16), .inl (ca 0, 60, .inl (zA mo_runTo))), ((aMo 0), .inr (11, [.ref (aMo 1), .int (zI mo_taped), .ref (aMo 3), .ref (aMo 4), .ref (aMo 5), .ref (aMo 6), .ref (aMo 7), .ref (aMo 8), .ref (aMo 9), .ref (aMo 10), .ref (aMo 11), .ref (aMo 12), .ref (aMo 13), .ref (aMo 14), .ref (aMo 15), .ref (aMo 16), .int (zI mo_size), .int (zI mo_runs), .ref (aMo 19), .ref (aMo 20), .ref (aMo 21), .int (zI mo_found), .int (zI mo_counted), .int (zI mo_isParted), .ref (aMo 25), .ref (aMo 26), .ref (aMo 27), .ref (aMo 28), .ref (aMo 29), .int (zI mo_maybes), .int (zI mo_days), .int (zI mo_over2), .int (zI mo_longer), .ref (aMo 34)])), ((aMo 5), .inl (ca 0, 4, .inl (zA mo_acts))), ((aMo 7), .inl (ca 0, 240, .inl (zA mo_kindOf)))]) (st' := [.int (zI r_21)]) (kX11_readAs l D ca aMo mo_taped mo_acts mo_kindOf mo_size mo_runs mo_found mo_counted mo_isParted mo_maybes mo_days mo_over2 mo_longer v1 v3 v2 r_21 hc_21) wml_RX11_124 wim_X11_readAs wse_X11_readAs win_RX11 wco_X11_readAs (nA := 3) rfl (by decide +kernel)  ⟨(Nat.le_of_ble_eq_true rfl), (Nat.le_of_ble_eq_true rfl)⟩ (Nat.le_refl _) (Nat.le_refl _) rfl (by decide) dX11_lays_21 0 11 rfl rfl rfl [0, 1, 2] [3, 4, 5, 6, 7] rfl rfl rfl (by decide) (by decide) (by decide) rfl rfl (fun _ => rfl) rfl (fun _ => ?_)
        refine g_istore (pc := 24) C (lv' := [(4, .int (zI r_21)), (0, .ref (aMo 0)), (1, .int (zI v1)), (2, .int (zI v2)), (3, .int (zI v3))]) dX11_lays_24 (Nat.le_of_ble_eq_true rfl) rfl ?_
        refine g_iconst (pc := 26) C dX11_lays_26 ?_
        refine g_istore (pc := 27) C (lv' := [(5, .int (zI 0)), (4, .int (zI r_21)), (0, .ref (aMo 0)), (1, .int (zI v1)), (2, .int (zI v2)), (3, .int (zI v3))]) dX11_lays_27 (Nat.le_of_ble_eq_true rfl) rfl ?_
        refine g_sub [5, 6, 7, 0, 1, 2, 3, 4] [2, 3, 4, 5, 1, 0] (by decide) rfl rfl rfl ?_
        exact H29 _ _ _ _ _ _ _ _ _ _ hf
  unfold fX11_lays at hf
  refine g_aload_n (pc := 0) C 0 dX11_lays_0 rfl rfl ?_
  refine g_iconst (pc := 1) C dX11_lays_1 ?_
  refine g_put (pc := 2) C zf_X11_121 tyX11 tyX11_ok nmX11 (v := .int (zI 0)) (ws' := [((aMo 0), .inr (11, [.ref (aMo 1), .int (zI mo_taped), .ref (aMo 3), .ref (aMo 4), .ref (aMo 5), .ref (aMo 6), .ref (aMo 7), .ref (aMo 8), .ref (aMo 9), .ref (aMo 10), .ref (aMo 11), .ref (aMo 12), .ref (aMo 13), .ref (aMo 14), .ref (aMo 15), .ref (aMo 16), .int (zI 0), .int (zI mo_runs), .ref (aMo 19), .ref (aMo 20), .ref (aMo 21), .int (zI mo_found), .int (zI mo_counted), .int (zI mo_isParted), .ref (aMo 25), .ref (aMo 26), .ref (aMo 27), .ref (aMo 28), .ref (aMo 29), .int (zI mo_maybes), .int (zI mo_days), .int (zI mo_over2), .int (zI mo_longer), .ref (aMo 34)])), ((aMo 5), .inl (ca 0, 4, .inl (zA mo_acts))), ((aMo 7), .inl (ca 0, 240, .inl (zA mo_kindOf))), ((aMo 8), .inl (ca 0, 240, .inl (zA mo_lengthOf))), ((aMo 13), .inl (ca 0, 20160, .inl (zA mo_laid))), ((aMo 14), .inl (ca 0, 20161, .inl (zA mo_driven))), ((aMo 15), .inl (ca 0, 60, .inl (zA mo_runFrom))), ((aMo 16), .inl (ca 0, 60, .inl (zA mo_runTo)))]) 0 rfl rfl rfl rfl rfl (Nat.le_of_ble_eq_true rfl) rfl rfl dX11_lays_2 ?_
  refine g_iconst (pc := 5) C dX11_lays_5 ?_
  refine g_istore_n (pc := 6) C (lv' := [(3, .int (zI 0)), (0, .ref (aMo 0)), (1, .int (zI v1)), (2, .int (zI v2))]) dX11_lays_6 rfl (Nat.le_of_ble_eq_true rfl) rfl ?_
  refine g_sub [0, 1, 2, 3, 4, 5, 6, 7] [1, 2, 3, 0] (by decide) rfl rfl rfl ?_
  exact H7 _ _ _ _ _ _ _ _ hf
set_option maxRecDepth 100000 in
theorem kX11_runLength (l : Launch) (D : va_G) (ca : Nat → ClassId) (aMo : Nat → Nat) (mo_taped : Int) (mo_runFrom : Nat → Int) (mo_runTo : Nat → Int) (mo_size : Int) (mo_runs : Int) (mo_found : Int) (mo_counted : Int) (mo_isParted : Int) (mo_maybes : Int) (mo_days : Int) (mo_over2 : Int) (mo_longer : Int) (v1 : Int) (r_o : Int)
    (hf : fX11_runLength v1 mo_runFrom mo_runTo = some r_o) : Zc l D ca yX11_runLength cX11_runLength 2 (some .int) { frames := 0, cells := 0, slots := 0, locals := 0 } [.ref (aMo 0), .int (zI v1)] [((aMo 0), .inr (11, [.ref (aMo 1), .int (zI mo_taped), .ref (aMo 3), .ref (aMo 4), .ref (aMo 5), .ref (aMo 6), .ref (aMo 7), .ref (aMo 8), .ref (aMo 9), .ref (aMo 10), .ref (aMo 11), .ref (aMo 12), .ref (aMo 13), .ref (aMo 14), .ref (aMo 15), .ref (aMo 16), .int (zI mo_size), .int (zI mo_runs), .ref (aMo 19), .ref (aMo 20), .ref (aMo 21), .int (zI mo_found), .int (zI mo_counted), .int (zI mo_isParted), .ref (aMo 25), .ref (aMo 26), .ref (aMo 27), .ref (aMo 28), .ref (aMo 29), .int (zI mo_maybes), .int (zI mo_days), .int (zI mo_over2), .int (zI mo_longer), .ref (aMo 34)])), ((aMo 15), .inl (ca 0, 60, .inl (zA mo_runFrom))), ((aMo 16), .inl (ca 0, 60, .inl (zA mo_runTo)))] (some (.int (zI r_o))) (fun _ => [((aMo 0), .inr (11, [.ref (aMo 1), .int (zI mo_taped), .ref (aMo 3), .ref (aMo 4), .ref (aMo 5), .ref (aMo 6), .ref (aMo 7), .ref (aMo 8), .ref (aMo 9), .ref (aMo 10), .ref (aMo 11), .ref (aMo 12), .ref (aMo 13), .ref (aMo 14), .ref (aMo 15), .ref (aMo 16), .int (zI mo_size), .int (zI mo_runs), .ref (aMo 19), .ref (aMo 20), .ref (aMo 21), .int (zI mo_found), .int (zI mo_counted), .int (zI mo_isParted), .ref (aMo 25), .ref (aMo 26), .ref (aMo 27), .ref (aMo 28), .ref (aMo 29), .int (zI mo_maybes), .int (zI mo_days), .int (zI mo_over2), .int (zI mo_longer), .ref (aMo 34)])), ((aMo 15), .inl (ca 0, 60, .inl (zA mo_runFrom))), ((aMo 16), .inl (ca 0, 60, .inl (zA mo_runTo)))]) := by
  refine ctr_of (lv := [(0, .ref (aMo 0)), (1, .int (zI v1))]) (by decide +kernel) (Nat.le_of_ble_eq_true rfl) rfl (fun Γ hl0 C E hnm => ?_)
  unfold fX11_runLength at hf
  refine g_aload_n (pc := 0) C 0 dX11_runLength_0 rfl rfl ?_
  refine g_get (pc := 1) C zf_X11_53 0 rfl rfl dX11_runLength_1 ?_
  refine g_iload_n (pc := 4) C 1 dX11_runLength_4 rfl rfl ?_
  refine g_iald (pc := 5) C (N := 60) 2 rfl rfl (Nat.le_of_ble_eq_true rfl) dX11_runLength_5 hf (fun hf => ?_)
  refine g_aload_n (pc := 6) C 0 dX11_runLength_6 rfl rfl ?_
  refine g_get (pc := 7) C zf_X11_50 0 rfl rfl dX11_runLength_7 ?_
  refine g_iload_n (pc := 10) C 1 dX11_runLength_10 rfl rfl ?_
  refine g_iald (pc := 11) C (N := 60) 1 rfl rfl (Nat.le_of_ble_eq_true rfl) dX11_runLength_11 hf (fun hf => ?_)
  refine g_isub (pc := 12) C dX11_runLength_12 ?_
  cases hf
  exact g_iret (pc := 13) C E (fun _ => 0) [0, 1, 2] (by decide) rfl rfl (Nat.le_refl _) (Nat.le_refl _) dX11_runLength_13
set_option maxRecDepth 100000 in
theorem kX11_resets (l : Launch) (D : va_G) (ca : Nat → ClassId) (aMo : Nat → Nat) (mo_taped : Int) (mo_rules : Nat → Int) (mo_size : Int) (mo_runs : Int) (mo_found : Int) (mo_counted : Int) (mo_isParted : Int) (mo_maybes : Int) (mo_days : Int) (mo_over2 : Int) (mo_longer : Int) (v1 : Int) (r_o : Int)
    (hf : fX11_resets v1 mo_rules mo_isParted = some r_o) : Zc l D ca yX11_resets cX11_resets 2 (some .boolean) { frames := 0, cells := 0, slots := 0, locals := 0 } [.ref (aMo 0), .int (zI v1)] [((aMo 0), .inr (11, [.ref (aMo 1), .int (zI mo_taped), .ref (aMo 3), .ref (aMo 4), .ref (aMo 5), .ref (aMo 6), .ref (aMo 7), .ref (aMo 8), .ref (aMo 9), .ref (aMo 10), .ref (aMo 11), .ref (aMo 12), .ref (aMo 13), .ref (aMo 14), .ref (aMo 15), .ref (aMo 16), .int (zI mo_size), .int (zI mo_runs), .ref (aMo 19), .ref (aMo 20), .ref (aMo 21), .int (zI mo_found), .int (zI mo_counted), .int (zI mo_isParted), .ref (aMo 25), .ref (aMo 26), .ref (aMo 27), .ref (aMo 28), .ref (aMo 29), .int (zI mo_maybes), .int (zI mo_days), .int (zI mo_over2), .int (zI mo_longer), .ref (aMo 34)])), ((aMo 3), .inl (ca 0, 11, .inl (zA mo_rules)))] (some (.int (zI r_o))) (fun _ => [((aMo 0), .inr (11, [.ref (aMo 1), .int (zI mo_taped), .ref (aMo 3), .ref (aMo 4), .ref (aMo 5), .ref (aMo 6), .ref (aMo 7), .ref (aMo 8), .ref (aMo 9), .ref (aMo 10), .ref (aMo 11), .ref (aMo 12), .ref (aMo 13), .ref (aMo 14), .ref (aMo 15), .ref (aMo 16), .int (zI mo_size), .int (zI mo_runs), .ref (aMo 19), .ref (aMo 20), .ref (aMo 21), .int (zI mo_found), .int (zI mo_counted), .int (zI mo_isParted), .ref (aMo 25), .ref (aMo 26), .ref (aMo 27), .ref (aMo 28), .ref (aMo 29), .int (zI mo_maybes), .int (zI mo_days), .int (zI mo_over2), .int (zI mo_longer), .ref (aMo 34)])), ((aMo 3), .inl (ca 0, 11, .inl (zA mo_rules)))]) := by
  refine ctr_of (lv := [(0, .ref (aMo 0)), (1, .int (zI v1))]) (by decide +kernel) (Nat.le_of_ble_eq_true rfl) rfl (fun Γ hl0 C E hnm => ?_)
  have H27 : fX11_resets_27 = some r_o → Zd D Γ 0 0 [((aMo 0), .inr (11, [.ref (aMo 1), .int (zI mo_taped), .ref (aMo 3), .ref (aMo 4), .ref (aMo 5), .ref (aMo 6), .ref (aMo 7), .ref (aMo 8), .ref (aMo 9), .ref (aMo 10), .ref (aMo 11), .ref (aMo 12), .ref (aMo 13), .ref (aMo 14), .ref (aMo 15), .ref (aMo 16), .int (zI mo_size), .int (zI mo_runs), .ref (aMo 19), .ref (aMo 20), .ref (aMo 21), .int (zI mo_found), .int (zI mo_counted), .int (zI mo_isParted), .ref (aMo 25), .ref (aMo 26), .ref (aMo 27), .ref (aMo 28), .ref (aMo 29), .int (zI mo_maybes), .int (zI mo_days), .int (zI mo_over2), .int (zI mo_longer), .ref (aMo 34)])), ((aMo 3), .inl (ca 0, 11, .inl (zA mo_rules)))] 27 [] [] := by
    intro  hf
    unfold fX11_resets_27 at hf
    refine g_iconst (pc := 27) C dX11_resets_27 ?_
    refine g_goto (pc := 28) C (tgt := 32) dX11_resets_28 (by decide) ?_
    cases hf
    exact g_zret (pc := 32) C E (by decide) (fun _ => 0) [0, 1] (by decide) rfl rfl (Nat.le_refl _) (Nat.le_refl _) dX11_resets_32
  have H31 : fX11_resets_31 = some r_o → Zd D Γ 0 0 [((aMo 0), .inr (11, [.ref (aMo 1), .int (zI mo_taped), .ref (aMo 3), .ref (aMo 4), .ref (aMo 5), .ref (aMo 6), .ref (aMo 7), .ref (aMo 8), .ref (aMo 9), .ref (aMo 10), .ref (aMo 11), .ref (aMo 12), .ref (aMo 13), .ref (aMo 14), .ref (aMo 15), .ref (aMo 16), .int (zI mo_size), .int (zI mo_runs), .ref (aMo 19), .ref (aMo 20), .ref (aMo 21), .int (zI mo_found), .int (zI mo_counted), .int (zI mo_isParted), .ref (aMo 25), .ref (aMo 26), .ref (aMo 27), .ref (aMo 28), .ref (aMo 29), .int (zI mo_maybes), .int (zI mo_days), .int (zI mo_over2), .int (zI mo_longer), .ref (aMo 34)])), ((aMo 3), .inl (ca 0, 11, .inl (zA mo_rules)))] 31 [] [] := by
    intro  hf
    unfold fX11_resets_31 at hf
    refine g_iconst (pc := 31) C dX11_resets_31 ?_
    cases hf
    exact g_zret (pc := 32) C E (by decide) (fun _ => 0) [0, 1] (by decide) rfl rfl (Nat.le_refl _) (Nat.le_refl _) dX11_resets_32
  unfold fX11_resets at hf
  refine g_iload_n (pc := 0) C 1 dX11_resets_0 rfl rfl ?_
  refine g_aload_n (pc := 1) C 0 dX11_resets_1 rfl rfl ?_
  refine g_get (pc := 2) C zf_X11_13 0 rfl rfl dX11_resets_2 ?_
  refine g_iconst (pc := 5) C dX11_resets_5 ?_
  refine g_ialdK (pc := 6) C 1 1 rfl rfl (Nat.le_of_ble_eq_true rfl) (Nat.le_of_ble_eq_true rfl) dX11_resets_6 ?_
  refine g_icmp_ge (pc := 7) C (tgt := 27) dX11_resets_7 (by decide) hf (fun hf => ?_) (fun hf => ?_)
  · refine g_sub [0, 1] [] (by decide) rfl rfl rfl ?_
    exact H27  hf
  · refine g_iload_n (pc := 10) C 1 dX11_resets_10 rfl rfl ?_
    refine g_aload_n (pc := 11) C 0 dX11_resets_11 rfl rfl ?_
    refine g_get (pc := 12) C zf_X11_13 0 rfl rfl dX11_resets_12 ?_
    refine g_iconst (pc := 15) C dX11_resets_15 ?_
    refine g_ialdK (pc := 16) C 3 1 rfl rfl (Nat.le_of_ble_eq_true rfl) (Nat.le_of_ble_eq_true rfl) dX11_resets_16 ?_
    refine g_icmp_lt (pc := 17) C (tgt := 31) dX11_resets_17 (by decide) hf (fun hf => ?_) (fun hf => ?_)
    · refine g_sub [0, 1] [] (by decide) rfl rfl rfl ?_
      exact H31  hf
    · refine g_aload_n (pc := 20) C 0 dX11_resets_20 rfl rfl ?_
      refine g_get (pc := 21) C zf_X11_134 0 rfl rfl dX11_resets_21 ?_
      refine g_if_eq (pc := 24) C (tgt := 31) dX11_resets_24 (by decide) hf (fun hf => ?_) (fun hf => ?_)
      · refine g_sub [0, 1] [] (by decide) rfl rfl rfl ?_
        exact H31  hf
      · refine g_sub [0, 1] [] (by decide) rfl rfl rfl ?_
        exact H27  hf
set_option maxRecDepth 100000 in
theorem kX11_tells (l : Launch) (D : va_G) (ca : Nat → ClassId) (aMo : Nat → Nat) (mo_taped : Int) (mo_size : Int) (mo_runs : Int) (mo_foundAt : Nat → Int) (mo_foundRule : Nat → Int) (mo_foundMany : Nat → Int) (mo_found : Int) (mo_counted : Int) (mo_isParted : Int) (mo_maybes : Int) (mo_days : Int) (mo_over2 : Int) (mo_longer : Int) (v1 : Int) (v2 : Int) (v3 : Int) (mo_foundAt_o : Nat → Int) (mo_foundRule_o : Nat → Int) (mo_foundMany_o : Nat → Int) (mo_found_o : Int)
    (hf : fX11_tells v1 v2 v3 mo_foundAt mo_foundRule mo_foundMany mo_found = some (mo_foundAt_o, mo_foundRule_o, mo_foundMany_o, mo_found_o)) : Zc l D ca yX11_tells cX11_tells 5 none { frames := 0, cells := 0, slots := 0, locals := 0 } [.ref (aMo 0), .int (zI v1), .int (zI v2), .int (zI v3)] [((aMo 0), .inr (11, [.ref (aMo 1), .int (zI mo_taped), .ref (aMo 3), .ref (aMo 4), .ref (aMo 5), .ref (aMo 6), .ref (aMo 7), .ref (aMo 8), .ref (aMo 9), .ref (aMo 10), .ref (aMo 11), .ref (aMo 12), .ref (aMo 13), .ref (aMo 14), .ref (aMo 15), .ref (aMo 16), .int (zI mo_size), .int (zI mo_runs), .ref (aMo 19), .ref (aMo 20), .ref (aMo 21), .int (zI mo_found), .int (zI mo_counted), .int (zI mo_isParted), .ref (aMo 25), .ref (aMo 26), .ref (aMo 27), .ref (aMo 28), .ref (aMo 29), .int (zI mo_maybes), .int (zI mo_days), .int (zI mo_over2), .int (zI mo_longer), .ref (aMo 34)])), ((aMo 19), .inl (ca 0, 400, .inl (zA mo_foundAt))), ((aMo 20), .inl (ca 0, 400, .inl (zA mo_foundRule))), ((aMo 21), .inl (ca 0, 400, .inl (zA mo_foundMany)))] none (fun _ => [((aMo 0), .inr (11, [.ref (aMo 1), .int (zI mo_taped), .ref (aMo 3), .ref (aMo 4), .ref (aMo 5), .ref (aMo 6), .ref (aMo 7), .ref (aMo 8), .ref (aMo 9), .ref (aMo 10), .ref (aMo 11), .ref (aMo 12), .ref (aMo 13), .ref (aMo 14), .ref (aMo 15), .ref (aMo 16), .int (zI mo_size), .int (zI mo_runs), .ref (aMo 19), .ref (aMo 20), .ref (aMo 21), .int (zI mo_found_o), .int (zI mo_counted), .int (zI mo_isParted), .ref (aMo 25), .ref (aMo 26), .ref (aMo 27), .ref (aMo 28), .ref (aMo 29), .int (zI mo_maybes), .int (zI mo_days), .int (zI mo_over2), .int (zI mo_longer), .ref (aMo 34)])), ((aMo 19), .inl (ca 0, 400, .inl (zA mo_foundAt_o))), ((aMo 20), .inl (ca 0, 400, .inl (zA mo_foundRule_o))), ((aMo 21), .inl (ca 0, 400, .inl (zA mo_foundMany_o)))]) := by
  refine ctr_of (lv := [(0, .ref (aMo 0)), (1, .int (zI v1)), (2, .int (zI v2)), (3, .int (zI v3))]) (by decide +kernel) (Nat.le_of_ble_eq_true rfl) rfl (fun Γ hl0 C E hnm => ?_)
  have H112 : ∀ (v4 : Int) (mo_foundAt : Nat → Int) (mo_foundRule : Nat → Int) (mo_foundMany : Nat → Int) (mo_found : Int), fX11_tells_112 v1 v2 v3 v4 mo_foundAt mo_foundRule mo_foundMany mo_found = some (mo_foundAt_o, mo_foundRule_o, mo_foundMany_o, mo_found_o) → Zd D Γ 0 0 [((aMo 0), .inr (11, [.ref (aMo 1), .int (zI mo_taped), .ref (aMo 3), .ref (aMo 4), .ref (aMo 5), .ref (aMo 6), .ref (aMo 7), .ref (aMo 8), .ref (aMo 9), .ref (aMo 10), .ref (aMo 11), .ref (aMo 12), .ref (aMo 13), .ref (aMo 14), .ref (aMo 15), .ref (aMo 16), .int (zI mo_size), .int (zI mo_runs), .ref (aMo 19), .ref (aMo 20), .ref (aMo 21), .int (zI mo_found), .int (zI mo_counted), .int (zI mo_isParted), .ref (aMo 25), .ref (aMo 26), .ref (aMo 27), .ref (aMo 28), .ref (aMo 29), .int (zI mo_maybes), .int (zI mo_days), .int (zI mo_over2), .int (zI mo_longer), .ref (aMo 34)])), ((aMo 19), .inl (ca 0, 400, .inl (zA mo_foundAt))), ((aMo 20), .inl (ca 0, 400, .inl (zA mo_foundRule))), ((aMo 21), .inl (ca 0, 400, .inl (zA mo_foundMany)))] 112 [(0, .ref (aMo 0)), (1, .int (zI v1)), (2, .int (zI v2)), (3, .int (zI v3)), (4, .int (zI v4))] [] := by
    intro v4 mo_foundAt mo_foundRule mo_foundMany mo_found hf
    unfold fX11_tells_112 at hf
    refine g_aload_n (pc := 112) C 0 dX11_tells_112 rfl rfl ?_
    refine g_get (pc := 113) C zf_X11_56 0 rfl rfl dX11_tells_113 ?_
    refine g_iload (pc := 116) C 4 dX11_tells_116 rfl ?_
    refine g_iload_n (pc := 118) C 1 dX11_tells_118 rfl rfl ?_
    refine g_iast (pc := 119) C (N := 400) (ws' := [((aMo 0), .inr (11, [.ref (aMo 1), .int (zI mo_taped), .ref (aMo 3), .ref (aMo 4), .ref (aMo 5), .ref (aMo 6), .ref (aMo 7), .ref (aMo 8), .ref (aMo 9), .ref (aMo 10), .ref (aMo 11), .ref (aMo 12), .ref (aMo 13), .ref (aMo 14), .ref (aMo 15), .ref (aMo 16), .int (zI mo_size), .int (zI mo_runs), .ref (aMo 19), .ref (aMo 20), .ref (aMo 21), .int (zI mo_found), .int (zI mo_counted), .int (zI mo_isParted), .ref (aMo 25), .ref (aMo 26), .ref (aMo 27), .ref (aMo 28), .ref (aMo 29), .int (zI mo_maybes), .int (zI mo_days), .int (zI mo_over2), .int (zI mo_longer), .ref (aMo 34)])), ((aMo 19), .inl (ca 0, 400, .inl (zA (zU mo_foundAt v4.toNat v1)))), ((aMo 20), .inl (ca 0, 400, .inl (zA mo_foundRule))), ((aMo 21), .inl (ca 0, 400, .inl (zA mo_foundMany)))]) 1 rfl rfl (Nat.le_of_ble_eq_true rfl) rfl dX11_tells_119 hf (fun hf => ?_)
    refine g_aload_n (pc := 120) C 0 dX11_tells_120 rfl rfl ?_
    refine g_get (pc := 121) C zf_X11_59 0 rfl rfl dX11_tells_121 ?_
    refine g_iload (pc := 124) C 4 dX11_tells_124 rfl ?_
    refine g_iload_n (pc := 126) C 2 dX11_tells_126 rfl rfl ?_
    refine g_iast (pc := 127) C (N := 400) (ws' := [((aMo 0), .inr (11, [.ref (aMo 1), .int (zI mo_taped), .ref (aMo 3), .ref (aMo 4), .ref (aMo 5), .ref (aMo 6), .ref (aMo 7), .ref (aMo 8), .ref (aMo 9), .ref (aMo 10), .ref (aMo 11), .ref (aMo 12), .ref (aMo 13), .ref (aMo 14), .ref (aMo 15), .ref (aMo 16), .int (zI mo_size), .int (zI mo_runs), .ref (aMo 19), .ref (aMo 20), .ref (aMo 21), .int (zI mo_found), .int (zI mo_counted), .int (zI mo_isParted), .ref (aMo 25), .ref (aMo 26), .ref (aMo 27), .ref (aMo 28), .ref (aMo 29), .int (zI mo_maybes), .int (zI mo_days), .int (zI mo_over2), .int (zI mo_longer), .ref (aMo 34)])), ((aMo 19), .inl (ca 0, 400, .inl (zA (zU mo_foundAt v4.toNat v1)))), ((aMo 20), .inl (ca 0, 400, .inl (zA (zU mo_foundRule v4.toNat v2)))), ((aMo 21), .inl (ca 0, 400, .inl (zA mo_foundMany)))]) 2 rfl rfl (Nat.le_of_ble_eq_true rfl) rfl dX11_tells_127 hf (fun hf => ?_)
    refine g_aload_n (pc := 128) C 0 dX11_tells_128 rfl rfl ?_
    refine g_get (pc := 129) C zf_X11_62 0 rfl rfl dX11_tells_129 ?_
    refine g_iload (pc := 132) C 4 dX11_tells_132 rfl ?_
    refine g_iload_n (pc := 134) C 3 dX11_tells_134 rfl rfl ?_
    refine g_iast (pc := 135) C (N := 400) (ws' := [((aMo 0), .inr (11, [.ref (aMo 1), .int (zI mo_taped), .ref (aMo 3), .ref (aMo 4), .ref (aMo 5), .ref (aMo 6), .ref (aMo 7), .ref (aMo 8), .ref (aMo 9), .ref (aMo 10), .ref (aMo 11), .ref (aMo 12), .ref (aMo 13), .ref (aMo 14), .ref (aMo 15), .ref (aMo 16), .int (zI mo_size), .int (zI mo_runs), .ref (aMo 19), .ref (aMo 20), .ref (aMo 21), .int (zI mo_found), .int (zI mo_counted), .int (zI mo_isParted), .ref (aMo 25), .ref (aMo 26), .ref (aMo 27), .ref (aMo 28), .ref (aMo 29), .int (zI mo_maybes), .int (zI mo_days), .int (zI mo_over2), .int (zI mo_longer), .ref (aMo 34)])), ((aMo 19), .inl (ca 0, 400, .inl (zA (zU mo_foundAt v4.toNat v1)))), ((aMo 20), .inl (ca 0, 400, .inl (zA (zU mo_foundRule v4.toNat v2)))), ((aMo 21), .inl (ca 0, 400, .inl (zA (zU mo_foundMany v4.toNat v3))))]) 3 rfl rfl (Nat.le_of_ble_eq_true rfl) rfl dX11_tells_135 hf (fun hf => ?_)
    refine g_aload_n (pc := 136) C 0 dX11_tells_136 rfl rfl ?_
    refine g_aload_n (pc := 137) C 0 dX11_tells_137 rfl rfl ?_
    refine g_get (pc := 138) C zf_X11_131 0 rfl rfl dX11_tells_138 ?_
    refine g_iconst (pc := 141) C dX11_tells_141 ?_
    refine g_iadd (pc := 142) C dX11_tells_142 ?_
    refine g_put (pc := 143) C zf_X11_131 tyX11 tyX11_ok nmX11 (v := .int (zI (mo_found + 1))) (ws' := [((aMo 0), .inr (11, [.ref (aMo 1), .int (zI mo_taped), .ref (aMo 3), .ref (aMo 4), .ref (aMo 5), .ref (aMo 6), .ref (aMo 7), .ref (aMo 8), .ref (aMo 9), .ref (aMo 10), .ref (aMo 11), .ref (aMo 12), .ref (aMo 13), .ref (aMo 14), .ref (aMo 15), .ref (aMo 16), .int (zI mo_size), .int (zI mo_runs), .ref (aMo 19), .ref (aMo 20), .ref (aMo 21), .int (zI (mo_found + 1)), .int (zI mo_counted), .int (zI mo_isParted), .ref (aMo 25), .ref (aMo 26), .ref (aMo 27), .ref (aMo 28), .ref (aMo 29), .int (zI mo_maybes), .int (zI mo_days), .int (zI mo_over2), .int (zI mo_longer), .ref (aMo 34)])), ((aMo 19), .inl (ca 0, 400, .inl (zA (zU mo_foundAt v4.toNat v1)))), ((aMo 20), .inl (ca 0, 400, .inl (zA (zU mo_foundRule v4.toNat v2)))), ((aMo 21), .inl (ca 0, 400, .inl (zA (zU mo_foundMany v4.toNat v3))))]) 0 rfl rfl rfl rfl rfl (Nat.le_of_ble_eq_true rfl) rfl rfl dX11_tells_143 ?_
    cases hf
    exact g_vret (pc := 146) C E (fun _ => 0) [0, 1, 2, 3] (by decide) rfl rfl (Nat.le_refl _) (Nat.le_refl _) dX11_tells_146
  have H11 : ∀ (mo_found : Int) (n11 : Nat) (v4 : Int) (mo_foundAt : Nat → Int) (mo_foundRule : Nat → Int) (mo_foundMany : Nat → Int), zlp (fX11_tells_11 v1 v2 v3 mo_found) n11 (v4, mo_foundAt, mo_foundRule, mo_foundMany) = some (mo_foundAt_o, mo_foundRule_o, mo_foundMany_o, mo_found_o) → Zd D Γ 0 0 [((aMo 0), .inr (11, [.ref (aMo 1), .int (zI mo_taped), .ref (aMo 3), .ref (aMo 4), .ref (aMo 5), .ref (aMo 6), .ref (aMo 7), .ref (aMo 8), .ref (aMo 9), .ref (aMo 10), .ref (aMo 11), .ref (aMo 12), .ref (aMo 13), .ref (aMo 14), .ref (aMo 15), .ref (aMo 16), .int (zI mo_size), .int (zI mo_runs), .ref (aMo 19), .ref (aMo 20), .ref (aMo 21), .int (zI mo_found), .int (zI mo_counted), .int (zI mo_isParted), .ref (aMo 25), .ref (aMo 26), .ref (aMo 27), .ref (aMo 28), .ref (aMo 29), .int (zI mo_maybes), .int (zI mo_days), .int (zI mo_over2), .int (zI mo_longer), .ref (aMo 34)])), ((aMo 19), .inl (ca 0, 400, .inl (zA mo_foundAt))), ((aMo 20), .inl (ca 0, 400, .inl (zA mo_foundRule))), ((aMo 21), .inl (ca 0, 400, .inl (zA mo_foundMany)))] 11 [(0, .ref (aMo 0)), (1, .int (zI v1)), (2, .int (zI v2)), (3, .int (zI v3)), (4, .int (zI v4))] [] := by
    intro mo_found
    intro n11
    induction n11 with
    | zero =>
      intro v4 mo_foundAt mo_foundRule mo_foundMany hf
      exact zno hf
    | succ n11 ih11 =>
      have H55 : ∀ (v4 : Int) (mo_foundAt : Nat → Int) (mo_foundRule : Nat → Int) (mo_foundMany : Nat → Int) (mo_found : Int), fX11_tells_55 (zlp (fX11_tells_11 v1 v2 v3 mo_found) n11) v4 mo_foundAt mo_foundRule mo_foundMany = some (mo_foundAt_o, mo_foundRule_o, mo_foundMany_o, mo_found_o) → Zd D Γ 0 0 [((aMo 0), .inr (11, [.ref (aMo 1), .int (zI mo_taped), .ref (aMo 3), .ref (aMo 4), .ref (aMo 5), .ref (aMo 6), .ref (aMo 7), .ref (aMo 8), .ref (aMo 9), .ref (aMo 10), .ref (aMo 11), .ref (aMo 12), .ref (aMo 13), .ref (aMo 14), .ref (aMo 15), .ref (aMo 16), .int (zI mo_size), .int (zI mo_runs), .ref (aMo 19), .ref (aMo 20), .ref (aMo 21), .int (zI mo_found), .int (zI mo_counted), .int (zI mo_isParted), .ref (aMo 25), .ref (aMo 26), .ref (aMo 27), .ref (aMo 28), .ref (aMo 29), .int (zI mo_maybes), .int (zI mo_days), .int (zI mo_over2), .int (zI mo_longer), .ref (aMo 34)])), ((aMo 19), .inl (ca 0, 400, .inl (zA mo_foundAt))), ((aMo 20), .inl (ca 0, 400, .inl (zA mo_foundRule))), ((aMo 21), .inl (ca 0, 400, .inl (zA mo_foundMany)))] 55 [(0, .ref (aMo 0)), (1, .int (zI v1)), (2, .int (zI v2)), (3, .int (zI v3)), (4, .int (zI v4))] [] := by
        intro v4 mo_foundAt mo_foundRule mo_foundMany mo_found hf
        unfold fX11_tells_55 at hf
        refine g_aload_n (pc := 55) C 0 dX11_tells_55 rfl rfl ?_
        refine g_get (pc := 56) C zf_X11_56 0 rfl rfl dX11_tells_56 ?_
        refine g_iload (pc := 59) C 4 dX11_tells_59 rfl ?_
        refine g_aload_n (pc := 61) C 0 dX11_tells_61 rfl rfl ?_
        refine g_get (pc := 62) C zf_X11_56 0 rfl rfl dX11_tells_62 ?_
        refine g_iload (pc := 65) C 4 dX11_tells_65 rfl ?_
        refine g_iconst (pc := 67) C dX11_tells_67 ?_
        refine g_isub (pc := 68) C dX11_tells_68 ?_
        refine g_iald (pc := 69) C (N := 400) 1 rfl rfl (Nat.le_of_ble_eq_true rfl) dX11_tells_69 hf (fun hf => ?_)
        refine g_iast (pc := 70) C (N := 400) (ws' := [((aMo 0), .inr (11, [.ref (aMo 1), .int (zI mo_taped), .ref (aMo 3), .ref (aMo 4), .ref (aMo 5), .ref (aMo 6), .ref (aMo 7), .ref (aMo 8), .ref (aMo 9), .ref (aMo 10), .ref (aMo 11), .ref (aMo 12), .ref (aMo 13), .ref (aMo 14), .ref (aMo 15), .ref (aMo 16), .int (zI mo_size), .int (zI mo_runs), .ref (aMo 19), .ref (aMo 20), .ref (aMo 21), .int (zI mo_found), .int (zI mo_counted), .int (zI mo_isParted), .ref (aMo 25), .ref (aMo 26), .ref (aMo 27), .ref (aMo 28), .ref (aMo 29), .int (zI mo_maybes), .int (zI mo_days), .int (zI mo_over2), .int (zI mo_longer), .ref (aMo 34)])), ((aMo 19), .inl (ca 0, 400, .inl (zA (zU mo_foundAt v4.toNat (mo_foundAt (v4 - 1).toNat))))), ((aMo 20), .inl (ca 0, 400, .inl (zA mo_foundRule))), ((aMo 21), .inl (ca 0, 400, .inl (zA mo_foundMany)))]) 1 rfl rfl (Nat.le_of_ble_eq_true rfl) rfl dX11_tells_70 hf (fun hf => ?_)
        refine g_aload_n (pc := 71) C 0 dX11_tells_71 rfl rfl ?_
        refine g_get (pc := 72) C zf_X11_59 0 rfl rfl dX11_tells_72 ?_
        refine g_iload (pc := 75) C 4 dX11_tells_75 rfl ?_
        refine g_aload_n (pc := 77) C 0 dX11_tells_77 rfl rfl ?_
        refine g_get (pc := 78) C zf_X11_59 0 rfl rfl dX11_tells_78 ?_
        refine g_iload (pc := 81) C 4 dX11_tells_81 rfl ?_
        refine g_iconst (pc := 83) C dX11_tells_83 ?_
        refine g_isub (pc := 84) C dX11_tells_84 ?_
        refine g_iald (pc := 85) C (N := 400) 2 rfl rfl (Nat.le_of_ble_eq_true rfl) dX11_tells_85 hf (fun hf => ?_)
        refine g_iast (pc := 86) C (N := 400) (ws' := [((aMo 0), .inr (11, [.ref (aMo 1), .int (zI mo_taped), .ref (aMo 3), .ref (aMo 4), .ref (aMo 5), .ref (aMo 6), .ref (aMo 7), .ref (aMo 8), .ref (aMo 9), .ref (aMo 10), .ref (aMo 11), .ref (aMo 12), .ref (aMo 13), .ref (aMo 14), .ref (aMo 15), .ref (aMo 16), .int (zI mo_size), .int (zI mo_runs), .ref (aMo 19), .ref (aMo 20), .ref (aMo 21), .int (zI mo_found), .int (zI mo_counted), .int (zI mo_isParted), .ref (aMo 25), .ref (aMo 26), .ref (aMo 27), .ref (aMo 28), .ref (aMo 29), .int (zI mo_maybes), .int (zI mo_days), .int (zI mo_over2), .int (zI mo_longer), .ref (aMo 34)])), ((aMo 19), .inl (ca 0, 400, .inl (zA (zU mo_foundAt v4.toNat (mo_foundAt (v4 - 1).toNat))))), ((aMo 20), .inl (ca 0, 400, .inl (zA (zU mo_foundRule v4.toNat (mo_foundRule (v4 - 1).toNat))))), ((aMo 21), .inl (ca 0, 400, .inl (zA mo_foundMany)))]) 2 rfl rfl (Nat.le_of_ble_eq_true rfl) rfl dX11_tells_86 hf (fun hf => ?_)
        refine g_aload_n (pc := 87) C 0 dX11_tells_87 rfl rfl ?_
        refine g_get (pc := 88) C zf_X11_62 0 rfl rfl dX11_tells_88 ?_
        refine g_iload (pc := 91) C 4 dX11_tells_91 rfl ?_
        refine g_aload_n (pc := 93) C 0 dX11_tells_93 rfl rfl ?_
        refine g_get (pc := 94) C zf_X11_62 0 rfl rfl dX11_tells_94 ?_
        refine g_iload (pc := 97) C 4 dX11_tells_97 rfl ?_
        refine g_iconst (pc := 99) C dX11_tells_99 ?_
        refine g_isub (pc := 100) C dX11_tells_100 ?_
        refine g_iald (pc := 101) C (N := 400) 3 rfl rfl (Nat.le_of_ble_eq_true rfl) dX11_tells_101 hf (fun hf => ?_)
        refine g_iast (pc := 102) C (N := 400) (ws' := [((aMo 0), .inr (11, [.ref (aMo 1), .int (zI mo_taped), .ref (aMo 3), .ref (aMo 4), .ref (aMo 5), .ref (aMo 6), .ref (aMo 7), .ref (aMo 8), .ref (aMo 9), .ref (aMo 10), .ref (aMo 11), .ref (aMo 12), .ref (aMo 13), .ref (aMo 14), .ref (aMo 15), .ref (aMo 16), .int (zI mo_size), .int (zI mo_runs), .ref (aMo 19), .ref (aMo 20), .ref (aMo 21), .int (zI mo_found), .int (zI mo_counted), .int (zI mo_isParted), .ref (aMo 25), .ref (aMo 26), .ref (aMo 27), .ref (aMo 28), .ref (aMo 29), .int (zI mo_maybes), .int (zI mo_days), .int (zI mo_over2), .int (zI mo_longer), .ref (aMo 34)])), ((aMo 19), .inl (ca 0, 400, .inl (zA (zU mo_foundAt v4.toNat (mo_foundAt (v4 - 1).toNat))))), ((aMo 20), .inl (ca 0, 400, .inl (zA (zU mo_foundRule v4.toNat (mo_foundRule (v4 - 1).toNat))))), ((aMo 21), .inl (ca 0, 400, .inl (zA (zU mo_foundMany v4.toNat (mo_foundMany (v4 - 1).toNat)))))]) 3 rfl rfl (Nat.le_of_ble_eq_true rfl) rfl dX11_tells_102 hf (fun hf => ?_)
        refine g_iload (pc := 103) C 4 dX11_tells_103 rfl ?_
        refine g_iconst (pc := 105) C dX11_tells_105 ?_
        refine g_isub (pc := 106) C dX11_tells_106 ?_
        refine g_istore (pc := 107) C (lv' := [(4, .int (zI (v4 - 1))), (0, .ref (aMo 0)), (1, .int (zI v1)), (2, .int (zI v2)), (3, .int (zI v3))]) dX11_tells_107 (Nat.le_of_ble_eq_true rfl) rfl ?_
        refine g_goto (pc := 109) C (tgt := 11) dX11_tells_109 (by decide) ?_
        refine g_sub [0, 1, 2, 3] [1, 2, 3, 4, 0] (by decide) rfl rfl rfl ?_
        exact ih11 _ _ _ _ hf
      intro v4 mo_foundAt mo_foundRule mo_foundMany hf
      rw [zlp_s] at hf
      unfold fX11_tells_11 at hf
      dsimp only at hf
      refine g_iload (pc := 11) C 4 dX11_tells_11 rfl ?_
      refine g_if_le (pc := 13) C (tgt := 112) dX11_tells_13 (by decide) hf (fun hf => ?_) (fun hf => ?_)
      · exact H112 _ _ _ _ _ hf
      · refine g_aload_n (pc := 16) C 0 dX11_tells_16 rfl rfl ?_
        refine g_get (pc := 17) C zf_X11_56 0 rfl rfl dX11_tells_17 ?_
        refine g_iload (pc := 20) C 4 dX11_tells_20 rfl ?_
        refine g_iconst (pc := 22) C dX11_tells_22 ?_
        refine g_isub (pc := 23) C dX11_tells_23 ?_
        refine g_iald (pc := 24) C (N := 400) 1 rfl rfl (Nat.le_of_ble_eq_true rfl) dX11_tells_24 hf (fun hf => ?_)
        refine g_iload_n (pc := 25) C 1 dX11_tells_25 rfl rfl ?_
        refine g_icmp_gt (pc := 26) C (tgt := 55) dX11_tells_26 (by decide) hf (fun hf => ?_) (fun hf => ?_)
        · exact H55 _ _ _ _ _ hf
        · refine g_aload_n (pc := 29) C 0 dX11_tells_29 rfl rfl ?_
          refine g_get (pc := 30) C zf_X11_56 0 rfl rfl dX11_tells_30 ?_
          refine g_iload (pc := 33) C 4 dX11_tells_33 rfl ?_
          refine g_iconst (pc := 35) C dX11_tells_35 ?_
          refine g_isub (pc := 36) C dX11_tells_36 ?_
          refine g_iald (pc := 37) C (N := 400) 1 rfl rfl (Nat.le_of_ble_eq_true rfl) dX11_tells_37 hf (fun hf => ?_)
          refine g_iload_n (pc := 38) C 1 dX11_tells_38 rfl rfl ?_
          refine g_icmp_ne (pc := 39) C (tgt := 112) dX11_tells_39 (by decide) hf (fun hf => ?_) (fun hf => ?_)
          · exact H112 _ _ _ _ _ hf
          · refine g_aload_n (pc := 42) C 0 dX11_tells_42 rfl rfl ?_
            refine g_get (pc := 43) C zf_X11_59 0 rfl rfl dX11_tells_43 ?_
            refine g_iload (pc := 46) C 4 dX11_tells_46 rfl ?_
            refine g_iconst (pc := 48) C dX11_tells_48 ?_
            refine g_isub (pc := 49) C dX11_tells_49 ?_
            refine g_iald (pc := 50) C (N := 400) 2 rfl rfl (Nat.le_of_ble_eq_true rfl) dX11_tells_50 hf (fun hf => ?_)
            refine g_iload_n (pc := 51) C 2 dX11_tells_51 rfl rfl ?_
            refine g_icmp_le (pc := 52) C (tgt := 112) dX11_tells_52 (by decide) hf (fun hf => ?_) (fun hf => ?_)
            · exact H112 _ _ _ _ _ hf
            · exact H55 _ _ _ _ _ hf
  unfold fX11_tells at hf
  refine g_iload_n (pc := 0) C 3 dX11_tells_0 rfl rfl ?_
  refine g_if_ne (pc := 1) C (tgt := 5) dX11_tells_1 (by decide) hf (fun hf => ?_) (fun hf => ?_)
  · refine g_aload_n (pc := 5) C 0 dX11_tells_5 rfl rfl ?_
    refine g_get (pc := 6) C zf_X11_131 0 rfl rfl dX11_tells_6 ?_
    refine g_istore (pc := 9) C (lv' := [(4, .int (zI mo_found)), (0, .ref (aMo 0)), (1, .int (zI v1)), (2, .int (zI v2)), (3, .int (zI v3))]) dX11_tells_9 (Nat.le_of_ble_eq_true rfl) rfl ?_
    refine g_sub [0, 1, 2, 3] [1, 2, 3, 4, 0] (by decide) rfl rfl rfl ?_
    exact H11 _ _ _ _ _ _ hf
  · cases hf
    exact g_vret (pc := 4) C E (fun _ => 0) [0, 1, 2, 3] (by decide) rfl rfl (Nat.le_refl _) (Nat.le_refl _) dX11_tells_4
set_option maxRecDepth 100000 in
theorem kX11_ruleOne (l : Launch) (D : va_G) (ca : Nat → ClassId) (aMo : Nat → Nat) (mo_taped : Int) (mo_rules : Nat → Int) (mo_laid : Nat → Int) (mo_runFrom : Nat → Int) (mo_runTo : Nat → Int) (mo_size : Int) (mo_runs : Int) (mo_foundAt : Nat → Int) (mo_foundRule : Nat → Int) (mo_foundMany : Nat → Int) (mo_found : Int) (mo_counted : Int) (mo_isParted : Int) (mo_maybes : Int) (mo_days : Int) (mo_over2 : Int) (mo_longer : Int)  (mo_foundAt_o : Nat → Int) (mo_foundRule_o : Nat → Int) (mo_foundMany_o : Nat → Int) (mo_found_o : Int) (mo_counted_o : Int) (mo_isParted_o : Int)
    (hf : fX11_ruleOne mo_rules mo_laid mo_runFrom mo_runTo mo_size mo_runs mo_foundAt mo_foundRule mo_foundMany mo_found mo_counted mo_isParted = some (mo_foundAt_o, mo_foundRule_o, mo_foundMany_o, mo_found_o, mo_counted_o, mo_isParted_o)) : Zc l D ca yX11_ruleOne cX11_ruleOne 6 none { frames := 1, cells := 0, slots := 0, locals := 24 } [.ref (aMo 0)] [((aMo 0), .inr (11, [.ref (aMo 1), .int (zI mo_taped), .ref (aMo 3), .ref (aMo 4), .ref (aMo 5), .ref (aMo 6), .ref (aMo 7), .ref (aMo 8), .ref (aMo 9), .ref (aMo 10), .ref (aMo 11), .ref (aMo 12), .ref (aMo 13), .ref (aMo 14), .ref (aMo 15), .ref (aMo 16), .int (zI mo_size), .int (zI mo_runs), .ref (aMo 19), .ref (aMo 20), .ref (aMo 21), .int (zI mo_found), .int (zI mo_counted), .int (zI mo_isParted), .ref (aMo 25), .ref (aMo 26), .ref (aMo 27), .ref (aMo 28), .ref (aMo 29), .int (zI mo_maybes), .int (zI mo_days), .int (zI mo_over2), .int (zI mo_longer), .ref (aMo 34)])), ((aMo 3), .inl (ca 0, 11, .inl (zA mo_rules))), ((aMo 13), .inl (ca 0, 20160, .inl (zA mo_laid))), ((aMo 15), .inl (ca 0, 60, .inl (zA mo_runFrom))), ((aMo 16), .inl (ca 0, 60, .inl (zA mo_runTo))), ((aMo 19), .inl (ca 0, 400, .inl (zA mo_foundAt))), ((aMo 20), .inl (ca 0, 400, .inl (zA mo_foundRule))), ((aMo 21), .inl (ca 0, 400, .inl (zA mo_foundMany)))] none (fun _ => [((aMo 0), .inr (11, [.ref (aMo 1), .int (zI mo_taped), .ref (aMo 3), .ref (aMo 4), .ref (aMo 5), .ref (aMo 6), .ref (aMo 7), .ref (aMo 8), .ref (aMo 9), .ref (aMo 10), .ref (aMo 11), .ref (aMo 12), .ref (aMo 13), .ref (aMo 14), .ref (aMo 15), .ref (aMo 16), .int (zI mo_size), .int (zI mo_runs), .ref (aMo 19), .ref (aMo 20), .ref (aMo 21), .int (zI mo_found_o), .int (zI mo_counted_o), .int (zI mo_isParted_o), .ref (aMo 25), .ref (aMo 26), .ref (aMo 27), .ref (aMo 28), .ref (aMo 29), .int (zI mo_maybes), .int (zI mo_days), .int (zI mo_over2), .int (zI mo_longer), .ref (aMo 34)])), ((aMo 3), .inl (ca 0, 11, .inl (zA mo_rules))), ((aMo 13), .inl (ca 0, 20160, .inl (zA mo_laid))), ((aMo 15), .inl (ca 0, 60, .inl (zA mo_runFrom))), ((aMo 16), .inl (ca 0, 60, .inl (zA mo_runTo))), ((aMo 19), .inl (ca 0, 400, .inl (zA mo_foundAt_o))), ((aMo 20), .inl (ca 0, 400, .inl (zA mo_foundRule_o))), ((aMo 21), .inl (ca 0, 400, .inl (zA mo_foundMany_o)))]) := by
  refine ctr_of (lv := [(0, .ref (aMo 0))]) (by decide +kernel) (Nat.le_of_ble_eq_true rfl) rfl (fun Γ hl0 C E hnm => ?_)
  have H19 : ∀  (n19 : Nat) (v1 : Int) (v2 : Int) (v3 : Int) (v4 : Int) (mo_foundAt : Nat → Int) (mo_foundRule : Nat → Int) (mo_foundMany : Nat → Int) (mo_found : Int) (mo_counted : Int) (mo_isParted : Int), zlp (fX11_ruleOne_19 mo_rules mo_laid mo_runFrom mo_runTo mo_size mo_runs) n19 (v1, v2, v3, v4, mo_foundAt, mo_foundRule, mo_foundMany, mo_found, mo_counted, mo_isParted) = some (mo_foundAt_o, mo_foundRule_o, mo_foundMany_o, mo_found_o, mo_counted_o, mo_isParted_o) → Zd D Γ 0 0 [((aMo 0), .inr (11, [.ref (aMo 1), .int (zI mo_taped), .ref (aMo 3), .ref (aMo 4), .ref (aMo 5), .ref (aMo 6), .ref (aMo 7), .ref (aMo 8), .ref (aMo 9), .ref (aMo 10), .ref (aMo 11), .ref (aMo 12), .ref (aMo 13), .ref (aMo 14), .ref (aMo 15), .ref (aMo 16), .int (zI mo_size), .int (zI mo_runs), .ref (aMo 19), .ref (aMo 20), .ref (aMo 21), .int (zI mo_found), .int (zI mo_counted), .int (zI mo_isParted), .ref (aMo 25), .ref (aMo 26), .ref (aMo 27), .ref (aMo 28), .ref (aMo 29), .int (zI mo_maybes), .int (zI mo_days), .int (zI mo_over2), .int (zI mo_longer), .ref (aMo 34)])), ((aMo 3), .inl (ca 0, 11, .inl (zA mo_rules))), ((aMo 13), .inl (ca 0, 20160, .inl (zA mo_laid))), ((aMo 15), .inl (ca 0, 60, .inl (zA mo_runFrom))), ((aMo 16), .inl (ca 0, 60, .inl (zA mo_runTo))), ((aMo 19), .inl (ca 0, 400, .inl (zA mo_foundAt))), ((aMo 20), .inl (ca 0, 400, .inl (zA mo_foundRule))), ((aMo 21), .inl (ca 0, 400, .inl (zA mo_foundMany)))] 19 [(0, .ref (aMo 0)), (1, .int (zI v1)), (2, .int (zI v2)), (3, .int (zI v3)), (4, .int (zI v4))] [] := by
    intro n19
    induction n19 with
    | zero =>
      intro v1 v2 v3 v4 mo_foundAt mo_foundRule mo_foundMany mo_found mo_counted mo_isParted hf
      exact zno hf
    | succ n19 ih19 =>
      have H161 : ∀ (v1 : Int) (v2 : Int) (v3 : Int) (v4 : Int) (mo_foundAt : Nat → Int) (mo_foundRule : Nat → Int) (mo_foundMany : Nat → Int) (mo_found : Int) (mo_counted : Int) (mo_isParted : Int), fX11_ruleOne_161 (zlp (fX11_ruleOne_19 mo_rules mo_laid mo_runFrom mo_runTo mo_size mo_runs) n19) v1 v2 v3 v4 mo_foundAt mo_foundRule mo_foundMany mo_found mo_counted mo_isParted = some (mo_foundAt_o, mo_foundRule_o, mo_foundMany_o, mo_found_o, mo_counted_o, mo_isParted_o) → Zd D Γ 0 0 [((aMo 0), .inr (11, [.ref (aMo 1), .int (zI mo_taped), .ref (aMo 3), .ref (aMo 4), .ref (aMo 5), .ref (aMo 6), .ref (aMo 7), .ref (aMo 8), .ref (aMo 9), .ref (aMo 10), .ref (aMo 11), .ref (aMo 12), .ref (aMo 13), .ref (aMo 14), .ref (aMo 15), .ref (aMo 16), .int (zI mo_size), .int (zI mo_runs), .ref (aMo 19), .ref (aMo 20), .ref (aMo 21), .int (zI mo_found), .int (zI mo_counted), .int (zI mo_isParted), .ref (aMo 25), .ref (aMo 26), .ref (aMo 27), .ref (aMo 28), .ref (aMo 29), .int (zI mo_maybes), .int (zI mo_days), .int (zI mo_over2), .int (zI mo_longer), .ref (aMo 34)])), ((aMo 3), .inl (ca 0, 11, .inl (zA mo_rules))), ((aMo 13), .inl (ca 0, 20160, .inl (zA mo_laid))), ((aMo 15), .inl (ca 0, 60, .inl (zA mo_runFrom))), ((aMo 16), .inl (ca 0, 60, .inl (zA mo_runTo))), ((aMo 19), .inl (ca 0, 400, .inl (zA mo_foundAt))), ((aMo 20), .inl (ca 0, 400, .inl (zA mo_foundRule))), ((aMo 21), .inl (ca 0, 400, .inl (zA mo_foundMany)))] 161 [(0, .ref (aMo 0)), (1, .int (zI v1)), (2, .int (zI v2)), (3, .int (zI v3)), (4, .int (zI v4))] [] := by
        intro v1 v2 v3 v4 mo_foundAt mo_foundRule mo_foundMany mo_found mo_counted mo_isParted hf
        unfold fX11_ruleOne_161 at hf
        refine g_iinc (pc := 161) C 4 (lv' := [(4, .int (zI (v4 + 1))), (0, .ref (aMo 0)), (1, .int (zI v1)), (2, .int (zI v2)), (3, .int (zI v3))]) dX11_ruleOne_161 rfl (Nat.le_of_ble_eq_true rfl) rfl ?_
        refine g_goto (pc := 164) C (tgt := 19) dX11_ruleOne_164 (by decide) ?_
        refine g_sub [0, 1, 2, 3, 4, 5, 6, 7] [1, 2, 3, 4, 0] (by decide) rfl rfl rfl ?_
        exact ih19 _ _ _ _ _ _ _ _ _ _ hf
      have H157 : ∀ (v1 : Int) (v2 : Int) (v3 : Int) (v4 : Int) (mo_foundAt : Nat → Int) (mo_foundRule : Nat → Int) (mo_foundMany : Nat → Int) (mo_found : Int) (mo_counted : Int) (mo_isParted : Int), fX11_ruleOne_157 (zlp (fX11_ruleOne_19 mo_rules mo_laid mo_runFrom mo_runTo mo_size mo_runs) n19) v1 v2 v3 v4 mo_foundAt mo_foundRule mo_foundMany mo_found mo_counted mo_isParted = some (mo_foundAt_o, mo_foundRule_o, mo_foundMany_o, mo_found_o, mo_counted_o, mo_isParted_o) → Zd D Γ 0 0 [((aMo 0), .inr (11, [.ref (aMo 1), .int (zI mo_taped), .ref (aMo 3), .ref (aMo 4), .ref (aMo 5), .ref (aMo 6), .ref (aMo 7), .ref (aMo 8), .ref (aMo 9), .ref (aMo 10), .ref (aMo 11), .ref (aMo 12), .ref (aMo 13), .ref (aMo 14), .ref (aMo 15), .ref (aMo 16), .int (zI mo_size), .int (zI mo_runs), .ref (aMo 19), .ref (aMo 20), .ref (aMo 21), .int (zI mo_found), .int (zI mo_counted), .int (zI mo_isParted), .ref (aMo 25), .ref (aMo 26), .ref (aMo 27), .ref (aMo 28), .ref (aMo 29), .int (zI mo_maybes), .int (zI mo_days), .int (zI mo_over2), .int (zI mo_longer), .ref (aMo 34)])), ((aMo 3), .inl (ca 0, 11, .inl (zA mo_rules))), ((aMo 13), .inl (ca 0, 20160, .inl (zA mo_laid))), ((aMo 15), .inl (ca 0, 60, .inl (zA mo_runFrom))), ((aMo 16), .inl (ca 0, 60, .inl (zA mo_runTo))), ((aMo 19), .inl (ca 0, 400, .inl (zA mo_foundAt))), ((aMo 20), .inl (ca 0, 400, .inl (zA mo_foundRule))), ((aMo 21), .inl (ca 0, 400, .inl (zA mo_foundMany)))] 157 [(0, .ref (aMo 0)), (1, .int (zI v1)), (2, .int (zI v2)), (3, .int (zI v3)), (4, .int (zI v4))] [] := by
        intro v1 v2 v3 v4 mo_foundAt mo_foundRule mo_foundMany mo_found mo_counted mo_isParted hf
        unfold fX11_ruleOne_157 at hf
        refine g_iload_n (pc := 157) C 3 dX11_ruleOne_157 rfl rfl ?_
        refine g_iconst (pc := 158) C dX11_ruleOne_158 ?_
        refine g_iadd (pc := 159) C dX11_ruleOne_159 ?_
        refine g_istore_n (pc := 160) C (lv' := [(3, .int (zI (v3 + 1))), (0, .ref (aMo 0)), (1, .int (zI v1)), (2, .int (zI v2)), (4, .int (zI v4))]) dX11_ruleOne_160 rfl (Nat.le_of_ble_eq_true rfl) rfl ?_
        refine g_sub [0, 1, 2, 3, 4, 5, 6, 7] [1, 2, 3, 0, 4] (by decide) rfl rfl rfl ?_
        exact H161 _ _ _ _ _ _ _ _ _ _ hf
      have H77 : ∀ (v1 : Int) (v2 : Int) (v3 : Int) (v4 : Int) (mo_foundAt : Nat → Int) (mo_foundRule : Nat → Int) (mo_foundMany : Nat → Int) (mo_found : Int) (mo_counted : Int) (mo_isParted : Int), fX11_ruleOne_77 (zlp (fX11_ruleOne_19 mo_rules mo_laid mo_runFrom mo_runTo mo_size mo_runs) n19) v1 v2 v3 v4 mo_rules mo_runFrom mo_runTo mo_runs mo_foundAt mo_foundRule mo_foundMany mo_found mo_counted mo_isParted = some (mo_foundAt_o, mo_foundRule_o, mo_foundMany_o, mo_found_o, mo_counted_o, mo_isParted_o) → Zd D Γ 0 0 [((aMo 0), .inr (11, [.ref (aMo 1), .int (zI mo_taped), .ref (aMo 3), .ref (aMo 4), .ref (aMo 5), .ref (aMo 6), .ref (aMo 7), .ref (aMo 8), .ref (aMo 9), .ref (aMo 10), .ref (aMo 11), .ref (aMo 12), .ref (aMo 13), .ref (aMo 14), .ref (aMo 15), .ref (aMo 16), .int (zI mo_size), .int (zI mo_runs), .ref (aMo 19), .ref (aMo 20), .ref (aMo 21), .int (zI mo_found), .int (zI mo_counted), .int (zI mo_isParted), .ref (aMo 25), .ref (aMo 26), .ref (aMo 27), .ref (aMo 28), .ref (aMo 29), .int (zI mo_maybes), .int (zI mo_days), .int (zI mo_over2), .int (zI mo_longer), .ref (aMo 34)])), ((aMo 3), .inl (ca 0, 11, .inl (zA mo_rules))), ((aMo 13), .inl (ca 0, 20160, .inl (zA mo_laid))), ((aMo 15), .inl (ca 0, 60, .inl (zA mo_runFrom))), ((aMo 16), .inl (ca 0, 60, .inl (zA mo_runTo))), ((aMo 19), .inl (ca 0, 400, .inl (zA mo_foundAt))), ((aMo 20), .inl (ca 0, 400, .inl (zA mo_foundRule))), ((aMo 21), .inl (ca 0, 400, .inl (zA mo_foundMany)))] 77 [(0, .ref (aMo 0)), (1, .int (zI v1)), (2, .int (zI v2)), (3, .int (zI v3)), (4, .int (zI v4))] [] := by
        intro v1 v2 v3 v4 mo_foundAt mo_foundRule mo_foundMany mo_found mo_counted mo_isParted hf
        unfold fX11_ruleOne_77 at hf
        refine g_iload_n (pc := 77) C 3 dX11_ruleOne_77 rfl rfl ?_
        refine g_aload_n (pc := 78) C 0 dX11_ruleOne_78 rfl rfl ?_
        refine g_get (pc := 79) C zf_X11_128 0 rfl rfl dX11_ruleOne_79 ?_
        refine g_icmp_eq (pc := 82) C (tgt := 161) dX11_ruleOne_82 (by decide) hf (fun hf => ?_) (fun hf => ?_)
        · exact H161 _ _ _ _ _ _ _ _ _ _ hf
        · refine g_aload_n (pc := 85) C 0 dX11_ruleOne_85 rfl rfl ?_
          refine g_get (pc := 86) C zf_X11_53 0 rfl rfl dX11_ruleOne_86 ?_
          refine g_iload_n (pc := 89) C 3 dX11_ruleOne_89 rfl rfl ?_
          refine g_iald (pc := 90) C (N := 60) 4 rfl rfl (Nat.le_of_ble_eq_true rfl) dX11_ruleOne_90 hf (fun hf => ?_)
          refine g_iload (pc := 91) C 4 dX11_ruleOne_91 rfl ?_
          refine g_iconst (pc := 93) C dX11_ruleOne_93 ?_
          refine g_iadd (pc := 94) C dX11_ruleOne_94 ?_
          refine g_icmp_eq (pc := 95) C (tgt := 101) dX11_ruleOne_95 (by decide) hf (fun hf => ?_) (fun hf => ?_)
          · refine g_aload_n (pc := 101) C 0 dX11_ruleOne_101 rfl rfl ?_
            refine g_iload_n (pc := 102) C 3 dX11_ruleOne_102 rfl rfl ?_
            obtain ⟨r_103, hc_103, hf⟩ := Option.bind_eq_some_iff.mp hf
            refine g_callV (pc := 103) C hl0 (wr := [((aMo 3), .inl (ca 0, 11, .inl (zA mo_rules))), ((aMo 13), .inl (ca 0, 20160, .inl (zA mo_laid))), ((aMo 19), .inl (ca 0, 400, .inl (zA mo_foundAt))), ((aMo 20), .inl (ca 0, 400, .inl (zA mo_foundRule))), ((aMo 21), .inl (ca 0, 400, .inl (zA mo_foundMany)))]) (k' := 0) (n' := 0) (ws' := fun _ => [((aMo 3), .inl (ca 0, 11, .inl (zA mo_rules))), ((aMo 13), .inl (ca 0, 20160, .inl (zA mo_laid))), ((aMo 19), .inl (ca 0, 400, .inl (zA mo_foundAt))), ((aMo 20), .inl (ca 0, 400, .inl (zA mo_foundRule))), ((aMo 21), .inl (ca 0, 400, .inl (zA mo_foundMany))), ((aMo 0), .inr (11, [.ref (aMo 1), .int (zI mo_taped), .ref (aMo 3), .ref (aMo 4), .ref (aMo 5), .ref (aMo 6), .ref (aMo 7), .ref (aMo 8), .ref (aMo 9), .ref (aMo 10), .ref (aMo 11), .ref (aMo 12), .ref (aMo 13), .ref (aMo 14), .ref (aMo 15), .ref (aMo 16), .int (zI mo_size), .int (zI mo_runs), .ref (aMo 19), .ref (aMo 20), .ref (aMo 21), .int (zI mo_found), .int (zI mo_counted), .int (zI mo_isParted), .ref (aMo 25), .ref (aMo 26), .ref (aMo 27), .ref (aMo 28), .ref (aMo 29), .int (zI mo_maybes), .int (zI mo_days), .int (zI mo_over2), .int (zI mo_longer), .ref (aMo 34)])), ((aMo 15), .inl (ca 0, 60, .inl (zA mo_runFrom))), ((aMo 16), .inl (ca 0, 60, .inl (zA mo_runTo)))]) (st' := [.int (zI r_103)]) (kX11_runLength l D ca aMo mo_taped mo_runFrom mo_runTo mo_size mo_runs mo_found mo_counted mo_isParted mo_maybes mo_days mo_over2 mo_longer v3 r_103 hc_103) wml_RX11_141 wim_X11_runLength wse_X11_runLength win_RX11 wco_X11_runLength (nA := 1) rfl (by decide +kernel)  ⟨(Nat.le_of_ble_eq_true rfl), (Nat.le_of_ble_eq_true rfl)⟩ (Nat.le_refl _) (Nat.le_refl _) rfl (by decide) dX11_ruleOne_103 0 11 rfl rfl rfl [0, 3, 4] [1, 2, 5, 6, 7] rfl rfl rfl (by decide) (by decide) (by decide) rfl rfl (fun _ => rfl) rfl (fun _ => ?_)
            refine g_istore (pc := 106) C (lv' := [(5, .int (zI r_103)), (0, .ref (aMo 0)), (1, .int (zI v1)), (2, .int (zI v2)), (3, .int (zI v3)), (4, .int (zI v4))]) dX11_ruleOne_106 (Nat.le_of_ble_eq_true rfl) rfl ?_
            refine g_aload_n (pc := 108) C 1 dX11_ruleOne_108 rfl rfl ?_
            refine g_iload (pc := 109) C 0 dX11_ruleOne_109 rfl ?_
            obtain ⟨r_111, hc_111, hf⟩ := Option.bind_eq_some_iff.mp hf
            refine g_callV (pc := 111) C hl0 (wr := [((aMo 13), .inl (ca 0, 20160, .inl (zA mo_laid))), ((aMo 19), .inl (ca 0, 400, .inl (zA mo_foundAt))), ((aMo 20), .inl (ca 0, 400, .inl (zA mo_foundRule))), ((aMo 21), .inl (ca 0, 400, .inl (zA mo_foundMany))), ((aMo 15), .inl (ca 0, 60, .inl (zA mo_runFrom))), ((aMo 16), .inl (ca 0, 60, .inl (zA mo_runTo)))]) (k' := 0) (n' := 0) (ws' := fun _ => [((aMo 13), .inl (ca 0, 20160, .inl (zA mo_laid))), ((aMo 19), .inl (ca 0, 400, .inl (zA mo_foundAt))), ((aMo 20), .inl (ca 0, 400, .inl (zA mo_foundRule))), ((aMo 21), .inl (ca 0, 400, .inl (zA mo_foundMany))), ((aMo 15), .inl (ca 0, 60, .inl (zA mo_runFrom))), ((aMo 16), .inl (ca 0, 60, .inl (zA mo_runTo))), ((aMo 0), .inr (11, [.ref (aMo 1), .int (zI mo_taped), .ref (aMo 3), .ref (aMo 4), .ref (aMo 5), .ref (aMo 6), .ref (aMo 7), .ref (aMo 8), .ref (aMo 9), .ref (aMo 10), .ref (aMo 11), .ref (aMo 12), .ref (aMo 13), .ref (aMo 14), .ref (aMo 15), .ref (aMo 16), .int (zI mo_size), .int (zI mo_runs), .ref (aMo 19), .ref (aMo 20), .ref (aMo 21), .int (zI mo_found), .int (zI mo_counted), .int (zI mo_isParted), .ref (aMo 25), .ref (aMo 26), .ref (aMo 27), .ref (aMo 28), .ref (aMo 29), .int (zI mo_maybes), .int (zI mo_days), .int (zI mo_over2), .int (zI mo_longer), .ref (aMo 34)])), ((aMo 3), .inl (ca 0, 11, .inl (zA mo_rules)))]) (st' := [.int (zI r_111)]) (kX11_resets l D ca aMo mo_taped mo_rules mo_size mo_runs mo_found mo_counted mo_isParted mo_maybes mo_days mo_over2 mo_longer r_103 r_111 hc_111) wml_RX11_144 wim_X11_resets wse_X11_resets win_RX11 wco_X11_resets (nA := 1) rfl (by decide +kernel)  ⟨(Nat.le_of_ble_eq_true rfl), (Nat.le_of_ble_eq_true rfl)⟩ (Nat.le_refl _) (Nat.le_refl _) rfl (by decide) dX11_ruleOne_111 5 11 rfl rfl rfl [5, 0] [1, 2, 3, 4, 6, 7] rfl rfl rfl (by decide) (by decide) (by decide) rfl rfl (fun _ => rfl) rfl (fun _ => ?_)
            refine g_if_eq (pc := 114) C (tgt := 141) dX11_ruleOne_114 (by decide) hf (fun hf => ?_) (fun hf => ?_)
            · refine g_iload (pc := 141) C 0 dX11_ruleOne_141 rfl ?_
              refine g_aload_n (pc := 143) C 1 dX11_ruleOne_143 rfl rfl ?_
              refine g_get (pc := 144) C zf_X11_13 6 rfl rfl dX11_ruleOne_144 ?_
              refine g_iconst (pc := 147) C dX11_ruleOne_147 ?_
              refine g_ialdK (pc := 148) C 2 7 rfl rfl (Nat.le_of_ble_eq_true rfl) (Nat.le_of_ble_eq_true rfl) dX11_ruleOne_148 ?_
              refine g_icmp_lt (pc := 149) C (tgt := 157) dX11_ruleOne_149 (by decide) hf (fun hf => ?_) (fun hf => ?_)
              · refine g_sub [6, 7, 0, 4, 5, 1, 2, 3] [1, 2, 3, 4, 5] (by decide) rfl rfl rfl ?_
                exact H157 _ _ _ _ _ _ _ _ _ _ hf
              · refine g_aload_n (pc := 152) C 1 dX11_ruleOne_152 rfl rfl ?_
                refine g_iconst (pc := 153) C dX11_ruleOne_153 ?_
                refine g_put (pc := 154) C zf_X11_134 tyX11 tyX11_ok nmX11 (v := .int (zI 1)) (ws' := [((aMo 13), .inl (ca 0, 20160, .inl (zA mo_laid))), ((aMo 19), .inl (ca 0, 400, .inl (zA mo_foundAt))), ((aMo 20), .inl (ca 0, 400, .inl (zA mo_foundRule))), ((aMo 21), .inl (ca 0, 400, .inl (zA mo_foundMany))), ((aMo 15), .inl (ca 0, 60, .inl (zA mo_runFrom))), ((aMo 16), .inl (ca 0, 60, .inl (zA mo_runTo))), ((aMo 0), .inr (11, [.ref (aMo 1), .int (zI mo_taped), .ref (aMo 3), .ref (aMo 4), .ref (aMo 5), .ref (aMo 6), .ref (aMo 7), .ref (aMo 8), .ref (aMo 9), .ref (aMo 10), .ref (aMo 11), .ref (aMo 12), .ref (aMo 13), .ref (aMo 14), .ref (aMo 15), .ref (aMo 16), .int (zI mo_size), .int (zI mo_runs), .ref (aMo 19), .ref (aMo 20), .ref (aMo 21), .int (zI mo_found), .int (zI mo_counted), .int (zI 1), .ref (aMo 25), .ref (aMo 26), .ref (aMo 27), .ref (aMo 28), .ref (aMo 29), .int (zI mo_maybes), .int (zI mo_days), .int (zI mo_over2), .int (zI mo_longer), .ref (aMo 34)])), ((aMo 3), .inl (ca 0, 11, .inl (zA mo_rules)))]) 6 rfl rfl rfl (by decide) (by decide) (Nat.le_of_ble_eq_true rfl) rfl rfl dX11_ruleOne_154 ?_
                refine g_sub [6, 7, 0, 4, 5, 1, 2, 3] [1, 2, 3, 4, 5] (by decide) rfl rfl rfl ?_
                exact H157 _ _ _ _ _ _ _ _ _ _ hf
            · refine g_aload_n (pc := 117) C 1 dX11_ruleOne_117 rfl rfl ?_
              refine g_iload_n (pc := 118) C 3 dX11_ruleOne_118 rfl rfl ?_
              refine g_iconst (pc := 119) C dX11_ruleOne_119 ?_
              refine g_iload_n (pc := 120) C 2 dX11_ruleOne_120 rfl rfl ?_
              obtain ⟨⟨mo_foundAt_121, mo_foundRule_121, mo_foundMany_121, mo_found_121⟩, hc_121, hf⟩ := Option.bind_eq_some_iff.mp hf
              dsimp only at hf
              refine g_callV (pc := 121) C hl0 (wr := [((aMo 13), .inl (ca 0, 20160, .inl (zA mo_laid))), ((aMo 15), .inl (ca 0, 60, .inl (zA mo_runFrom))), ((aMo 16), .inl (ca 0, 60, .inl (zA mo_runTo))), ((aMo 3), .inl (ca 0, 11, .inl (zA mo_rules)))]) (k' := 0) (n' := 0) (ws' := fun _ => [((aMo 13), .inl (ca 0, 20160, .inl (zA mo_laid))), ((aMo 15), .inl (ca 0, 60, .inl (zA mo_runFrom))), ((aMo 16), .inl (ca 0, 60, .inl (zA mo_runTo))), ((aMo 3), .inl (ca 0, 11, .inl (zA mo_rules))), ((aMo 0), .inr (11, [.ref (aMo 1), .int (zI mo_taped), .ref (aMo 3), .ref (aMo 4), .ref (aMo 5), .ref (aMo 6), .ref (aMo 7), .ref (aMo 8), .ref (aMo 9), .ref (aMo 10), .ref (aMo 11), .ref (aMo 12), .ref (aMo 13), .ref (aMo 14), .ref (aMo 15), .ref (aMo 16), .int (zI mo_size), .int (zI mo_runs), .ref (aMo 19), .ref (aMo 20), .ref (aMo 21), .int (zI mo_found_121), .int (zI mo_counted), .int (zI mo_isParted), .ref (aMo 25), .ref (aMo 26), .ref (aMo 27), .ref (aMo 28), .ref (aMo 29), .int (zI mo_maybes), .int (zI mo_days), .int (zI mo_over2), .int (zI mo_longer), .ref (aMo 34)])), ((aMo 19), .inl (ca 0, 400, .inl (zA mo_foundAt_121))), ((aMo 20), .inl (ca 0, 400, .inl (zA mo_foundRule_121))), ((aMo 21), .inl (ca 0, 400, .inl (zA mo_foundMany_121)))]) (st' := []) (kX11_tells l D ca aMo mo_taped mo_size mo_runs mo_foundAt mo_foundRule mo_foundMany mo_found mo_counted mo_isParted mo_maybes mo_days mo_over2 mo_longer v2 1 v1 mo_foundAt_121 mo_foundRule_121 mo_foundMany_121 mo_found_121 hc_121) wml_RX11_147 wim_X11_tells wse_X11_tells win_RX11 wco_X11_tells (nA := 3) rfl (by decide +kernel)  ⟨(Nat.le_of_ble_eq_true rfl), (Nat.le_of_ble_eq_true rfl)⟩ (Nat.le_refl _) (Nat.le_refl _) rfl (by decide) dX11_ruleOne_121 6 11 rfl rfl rfl [6, 1, 2, 3] [0, 4, 5, 7] rfl rfl rfl (by decide) (by decide) (by decide) rfl rfl (fun _ => rfl) rfl (fun _ => ?_)
              refine g_aload_n (pc := 124) C 1 dX11_ruleOne_124 rfl rfl ?_
              refine g_iconst (pc := 125) C dX11_ruleOne_125 ?_
              refine g_put (pc := 126) C zf_X11_138 tyX11 tyX11_ok nmX11 (v := .int (zI 0)) (ws' := [((aMo 13), .inl (ca 0, 20160, .inl (zA mo_laid))), ((aMo 15), .inl (ca 0, 60, .inl (zA mo_runFrom))), ((aMo 16), .inl (ca 0, 60, .inl (zA mo_runTo))), ((aMo 3), .inl (ca 0, 11, .inl (zA mo_rules))), ((aMo 0), .inr (11, [.ref (aMo 1), .int (zI mo_taped), .ref (aMo 3), .ref (aMo 4), .ref (aMo 5), .ref (aMo 6), .ref (aMo 7), .ref (aMo 8), .ref (aMo 9), .ref (aMo 10), .ref (aMo 11), .ref (aMo 12), .ref (aMo 13), .ref (aMo 14), .ref (aMo 15), .ref (aMo 16), .int (zI mo_size), .int (zI mo_runs), .ref (aMo 19), .ref (aMo 20), .ref (aMo 21), .int (zI mo_found_121), .int (zI 0), .int (zI mo_isParted), .ref (aMo 25), .ref (aMo 26), .ref (aMo 27), .ref (aMo 28), .ref (aMo 29), .int (zI mo_maybes), .int (zI mo_days), .int (zI mo_over2), .int (zI mo_longer), .ref (aMo 34)])), ((aMo 19), .inl (ca 0, 400, .inl (zA mo_foundAt_121))), ((aMo 20), .inl (ca 0, 400, .inl (zA mo_foundRule_121))), ((aMo 21), .inl (ca 0, 400, .inl (zA mo_foundMany_121)))]) 4 rfl rfl rfl rfl rfl (Nat.le_of_ble_eq_true rfl) rfl rfl dX11_ruleOne_126 ?_
              refine g_aload_n (pc := 129) C 1 dX11_ruleOne_129 rfl rfl ?_
              refine g_iconst (pc := 130) C dX11_ruleOne_130 ?_
              refine g_put (pc := 131) C zf_X11_134 tyX11 tyX11_ok nmX11 (v := .int (zI 0)) (ws' := [((aMo 13), .inl (ca 0, 20160, .inl (zA mo_laid))), ((aMo 15), .inl (ca 0, 60, .inl (zA mo_runFrom))), ((aMo 16), .inl (ca 0, 60, .inl (zA mo_runTo))), ((aMo 3), .inl (ca 0, 11, .inl (zA mo_rules))), ((aMo 0), .inr (11, [.ref (aMo 1), .int (zI mo_taped), .ref (aMo 3), .ref (aMo 4), .ref (aMo 5), .ref (aMo 6), .ref (aMo 7), .ref (aMo 8), .ref (aMo 9), .ref (aMo 10), .ref (aMo 11), .ref (aMo 12), .ref (aMo 13), .ref (aMo 14), .ref (aMo 15), .ref (aMo 16), .int (zI mo_size), .int (zI mo_runs), .ref (aMo 19), .ref (aMo 20), .ref (aMo 21), .int (zI mo_found_121), .int (zI 0), .int (zI 0), .ref (aMo 25), .ref (aMo 26), .ref (aMo 27), .ref (aMo 28), .ref (aMo 29), .int (zI mo_maybes), .int (zI mo_days), .int (zI mo_over2), .int (zI mo_longer), .ref (aMo 34)])), ((aMo 19), .inl (ca 0, 400, .inl (zA mo_foundAt_121))), ((aMo 20), .inl (ca 0, 400, .inl (zA mo_foundRule_121))), ((aMo 21), .inl (ca 0, 400, .inl (zA mo_foundMany_121)))]) 4 rfl rfl rfl (by decide) (by decide) (Nat.le_of_ble_eq_true rfl) rfl rfl dX11_ruleOne_131 ?_
              refine g_iconst (pc := 134) C dX11_ruleOne_134 ?_
              refine g_istore_n (pc := 135) C (lv' := [(1, .int (zI 0)), (5, .int (zI r_103)), (0, .ref (aMo 0)), (2, .int (zI v2)), (3, .int (zI v3)), (4, .int (zI v4))]) dX11_ruleOne_135 rfl (Nat.le_of_ble_eq_true rfl) rfl ?_
              refine g_iconst (pc := 136) C dX11_ruleOne_136 ?_
              refine g_istore_n (pc := 137) C (lv' := [(2, .int (zI (-1))), (1, .int (zI 0)), (5, .int (zI r_103)), (0, .ref (aMo 0)), (3, .int (zI v3)), (4, .int (zI v4))]) dX11_ruleOne_137 rfl (Nat.le_of_ble_eq_true rfl) rfl ?_
              refine g_goto (pc := 138) C (tgt := 157) dX11_ruleOne_138 (by decide) ?_
              refine g_sub [4, 3, 0, 1, 2, 5, 6, 7] [3, 1, 0, 4, 5] (by decide) rfl rfl rfl ?_
              exact H157 _ _ _ _ _ _ _ _ _ _ hf
          · refine g_goto (pc := 98) C (tgt := 161) dX11_ruleOne_98 (by decide) ?_
            exact H161 _ _ _ _ _ _ _ _ _ _ hf
      have H76 : ∀ (v1 : Int) (v3 : Int) (v4 : Int) (s0 : Int) (mo_foundAt : Nat → Int) (mo_foundRule : Nat → Int) (mo_foundMany : Nat → Int) (mo_found : Int) (mo_counted : Int) (mo_isParted : Int), fX11_ruleOne_76 (zlp (fX11_ruleOne_19 mo_rules mo_laid mo_runFrom mo_runTo mo_size mo_runs) n19) v1 v3 v4 s0 mo_rules mo_runFrom mo_runTo mo_runs mo_foundAt mo_foundRule mo_foundMany mo_found mo_counted mo_isParted = some (mo_foundAt_o, mo_foundRule_o, mo_foundMany_o, mo_found_o, mo_counted_o, mo_isParted_o) → Zd D Γ 0 0 [((aMo 0), .inr (11, [.ref (aMo 1), .int (zI mo_taped), .ref (aMo 3), .ref (aMo 4), .ref (aMo 5), .ref (aMo 6), .ref (aMo 7), .ref (aMo 8), .ref (aMo 9), .ref (aMo 10), .ref (aMo 11), .ref (aMo 12), .ref (aMo 13), .ref (aMo 14), .ref (aMo 15), .ref (aMo 16), .int (zI mo_size), .int (zI mo_runs), .ref (aMo 19), .ref (aMo 20), .ref (aMo 21), .int (zI mo_found), .int (zI mo_counted), .int (zI mo_isParted), .ref (aMo 25), .ref (aMo 26), .ref (aMo 27), .ref (aMo 28), .ref (aMo 29), .int (zI mo_maybes), .int (zI mo_days), .int (zI mo_over2), .int (zI mo_longer), .ref (aMo 34)])), ((aMo 3), .inl (ca 0, 11, .inl (zA mo_rules))), ((aMo 13), .inl (ca 0, 20160, .inl (zA mo_laid))), ((aMo 15), .inl (ca 0, 60, .inl (zA mo_runFrom))), ((aMo 16), .inl (ca 0, 60, .inl (zA mo_runTo))), ((aMo 19), .inl (ca 0, 400, .inl (zA mo_foundAt))), ((aMo 20), .inl (ca 0, 400, .inl (zA mo_foundRule))), ((aMo 21), .inl (ca 0, 400, .inl (zA mo_foundMany)))] 76 [(0, .ref (aMo 0)), (1, .int (zI v1)), (3, .int (zI v3)), (4, .int (zI v4))] [.int (zI s0)] := by
        intro v1 v3 v4 s0 mo_foundAt mo_foundRule mo_foundMany mo_found mo_counted mo_isParted hf
        unfold fX11_ruleOne_76 at hf
        refine g_istore_n (pc := 76) C (lv' := [(2, .int (zI s0)), (0, .ref (aMo 0)), (1, .int (zI v1)), (3, .int (zI v3)), (4, .int (zI v4))]) dX11_ruleOne_76 rfl (Nat.le_of_ble_eq_true rfl) rfl ?_
        refine g_sub [0, 1, 2, 3, 4, 5, 6, 7] [1, 2, 0, 3, 4] (by decide) rfl rfl rfl ?_
        exact H77 _ _ _ _ _ _ _ _ _ _ hf
      intro v1 v2 v3 v4 mo_foundAt mo_foundRule mo_foundMany mo_found mo_counted mo_isParted hf
      rw [zlp_s] at hf
      unfold fX11_ruleOne_19 at hf
      dsimp only at hf
      refine g_iload (pc := 19) C 4 dX11_ruleOne_19 rfl ?_
      refine g_aload_n (pc := 21) C 0 dX11_ruleOne_21 rfl rfl ?_
      refine g_get (pc := 22) C zf_X11_121 0 rfl rfl dX11_ruleOne_22 ?_
      refine g_icmp_ge (pc := 25) C (tgt := 167) dX11_ruleOne_25 (by decide) hf (fun hf => ?_) (fun hf => ?_)
      · refine g_aload_n (pc := 167) C 0 dX11_ruleOne_167 rfl rfl ?_
        refine g_iload_n (pc := 168) C 2 dX11_ruleOne_168 rfl rfl ?_
        refine g_iconst (pc := 169) C dX11_ruleOne_169 ?_
        refine g_iload_n (pc := 170) C 1 dX11_ruleOne_170 rfl rfl ?_
        obtain ⟨⟨mo_foundAt_171, mo_foundRule_171, mo_foundMany_171, mo_found_171⟩, hc_171, hf⟩ := Option.bind_eq_some_iff.mp hf
        dsimp only at hf
        refine g_callV (pc := 171) C hl0 (wr := [((aMo 3), .inl (ca 0, 11, .inl (zA mo_rules))), ((aMo 13), .inl (ca 0, 20160, .inl (zA mo_laid))), ((aMo 15), .inl (ca 0, 60, .inl (zA mo_runFrom))), ((aMo 16), .inl (ca 0, 60, .inl (zA mo_runTo)))]) (k' := 0) (n' := 0) (ws' := fun _ => [((aMo 3), .inl (ca 0, 11, .inl (zA mo_rules))), ((aMo 13), .inl (ca 0, 20160, .inl (zA mo_laid))), ((aMo 15), .inl (ca 0, 60, .inl (zA mo_runFrom))), ((aMo 16), .inl (ca 0, 60, .inl (zA mo_runTo))), ((aMo 0), .inr (11, [.ref (aMo 1), .int (zI mo_taped), .ref (aMo 3), .ref (aMo 4), .ref (aMo 5), .ref (aMo 6), .ref (aMo 7), .ref (aMo 8), .ref (aMo 9), .ref (aMo 10), .ref (aMo 11), .ref (aMo 12), .ref (aMo 13), .ref (aMo 14), .ref (aMo 15), .ref (aMo 16), .int (zI mo_size), .int (zI mo_runs), .ref (aMo 19), .ref (aMo 20), .ref (aMo 21), .int (zI mo_found_171), .int (zI mo_counted), .int (zI mo_isParted), .ref (aMo 25), .ref (aMo 26), .ref (aMo 27), .ref (aMo 28), .ref (aMo 29), .int (zI mo_maybes), .int (zI mo_days), .int (zI mo_over2), .int (zI mo_longer), .ref (aMo 34)])), ((aMo 19), .inl (ca 0, 400, .inl (zA mo_foundAt_171))), ((aMo 20), .inl (ca 0, 400, .inl (zA mo_foundRule_171))), ((aMo 21), .inl (ca 0, 400, .inl (zA mo_foundMany_171)))]) (st' := []) (kX11_tells l D ca aMo mo_taped mo_size mo_runs mo_foundAt mo_foundRule mo_foundMany mo_found mo_counted mo_isParted mo_maybes mo_days mo_over2 mo_longer v2 1 v1 mo_foundAt_171 mo_foundRule_171 mo_foundMany_171 mo_found_171 hc_171) wml_RX11_147 wim_X11_tells wse_X11_tells win_RX11 wco_X11_tells (nA := 3) rfl (by decide +kernel)  ⟨(Nat.le_of_ble_eq_true rfl), (Nat.le_of_ble_eq_true rfl)⟩ (Nat.le_refl _) (Nat.le_refl _) rfl (by decide) dX11_ruleOne_171 0 11 rfl rfl rfl [0, 5, 6, 7] [1, 2, 3, 4] rfl rfl rfl (by decide) (by decide) (by decide) rfl rfl (fun _ => rfl) rfl (fun _ => ?_)
        cases hf
        exact g_vret (pc := 174) C E (fun _ => 0) [4, 0, 1, 2, 3, 5, 6, 7] (by decide) rfl rfl (Nat.le_refl _) (Nat.le_refl _) dX11_ruleOne_174
      · refine g_aload_n (pc := 28) C 0 dX11_ruleOne_28 rfl rfl ?_
        refine g_get (pc := 29) C zf_X11_44 0 rfl rfl dX11_ruleOne_29 ?_
        refine g_iload (pc := 32) C 4 dX11_ruleOne_32 rfl ?_
        refine g_iald (pc := 34) C (N := 20160) 2 rfl rfl (Nat.le_of_ble_eq_true rfl) dX11_ruleOne_34 hf (fun hf => ?_)
        refine g_if_ne (pc := 35) C (tgt := 77) dX11_ruleOne_35 (by decide) hf (fun hf => ?_) (fun hf => ?_)
        · exact H77 _ _ _ _ _ _ _ _ _ _ hf
        · refine g_aload_n (pc := 38) C 0 dX11_ruleOne_38 rfl rfl ?_
          refine g_aload_n (pc := 39) C 0 dX11_ruleOne_39 rfl rfl ?_
          refine g_get (pc := 40) C zf_X11_138 0 rfl rfl dX11_ruleOne_40 ?_
          refine g_iconst (pc := 43) C dX11_ruleOne_43 ?_
          refine g_iadd (pc := 44) C dX11_ruleOne_44 ?_
          refine g_put (pc := 45) C zf_X11_138 tyX11 tyX11_ok nmX11 (v := .int (zI (mo_counted + 1))) (ws' := [((aMo 0), .inr (11, [.ref (aMo 1), .int (zI mo_taped), .ref (aMo 3), .ref (aMo 4), .ref (aMo 5), .ref (aMo 6), .ref (aMo 7), .ref (aMo 8), .ref (aMo 9), .ref (aMo 10), .ref (aMo 11), .ref (aMo 12), .ref (aMo 13), .ref (aMo 14), .ref (aMo 15), .ref (aMo 16), .int (zI mo_size), .int (zI mo_runs), .ref (aMo 19), .ref (aMo 20), .ref (aMo 21), .int (zI mo_found), .int (zI (mo_counted + 1)), .int (zI mo_isParted), .ref (aMo 25), .ref (aMo 26), .ref (aMo 27), .ref (aMo 28), .ref (aMo 29), .int (zI mo_maybes), .int (zI mo_days), .int (zI mo_over2), .int (zI mo_longer), .ref (aMo 34)])), ((aMo 3), .inl (ca 0, 11, .inl (zA mo_rules))), ((aMo 13), .inl (ca 0, 20160, .inl (zA mo_laid))), ((aMo 15), .inl (ca 0, 60, .inl (zA mo_runFrom))), ((aMo 16), .inl (ca 0, 60, .inl (zA mo_runTo))), ((aMo 19), .inl (ca 0, 400, .inl (zA mo_foundAt))), ((aMo 20), .inl (ca 0, 400, .inl (zA mo_foundRule))), ((aMo 21), .inl (ca 0, 400, .inl (zA mo_foundMany)))]) 0 rfl rfl rfl rfl rfl (Nat.le_of_ble_eq_true rfl) rfl rfl dX11_ruleOne_45 ?_
          refine g_aload_n (pc := 48) C 0 dX11_ruleOne_48 rfl rfl ?_
          refine g_get (pc := 49) C zf_X11_138 0 rfl rfl dX11_ruleOne_49 ?_
          refine g_aload_n (pc := 52) C 0 dX11_ruleOne_52 rfl rfl ?_
          refine g_get (pc := 53) C zf_X11_13 0 rfl rfl dX11_ruleOne_53 ?_
          refine g_iconst (pc := 56) C dX11_ruleOne_56 ?_
          refine g_ialdK (pc := 57) C 0 1 rfl rfl (Nat.le_of_ble_eq_true rfl) (Nat.le_of_ble_eq_true rfl) dX11_ruleOne_57 ?_
          refine g_icmp_le (pc := 58) C (tgt := 77) dX11_ruleOne_58 (by decide) hf (fun hf => ?_) (fun hf => ?_)
          · exact H77 _ _ _ _ _ _ _ _ _ _ hf
          · refine g_iload_n (pc := 61) C 1 dX11_ruleOne_61 rfl rfl ?_
            refine g_iconst (pc := 62) C dX11_ruleOne_62 ?_
            refine g_iadd (pc := 63) C dX11_ruleOne_63 ?_
            refine g_istore_n (pc := 64) C (lv' := [(1, .int (zI (v1 + 1))), (0, .ref (aMo 0)), (2, .int (zI v2)), (3, .int (zI v3)), (4, .int (zI v4))]) dX11_ruleOne_64 rfl (Nat.le_of_ble_eq_true rfl) rfl ?_
            refine g_iload_n (pc := 65) C 2 dX11_ruleOne_65 rfl rfl ?_
            refine g_iconst (pc := 66) C dX11_ruleOne_66 ?_
            refine g_icmp_ner (pc := 67) C (tgt := 75) dX11_ruleOne_67 (by decide) (by decide) hf (fun hf => ?_) (fun hf => ?_)
            · refine g_iload_n (pc := 75) C 2 dX11_ruleOne_75 rfl rfl ?_
              refine g_sub [0, 1, 2, 3, 4, 5, 6, 7] [1, 0, 3, 4] (by decide) rfl rfl rfl ?_
              exact H76 _ _ _ _ _ _ _ _ _ _ hf
            · refine g_iload (pc := 70) C 4 dX11_ruleOne_70 rfl ?_
              refine g_goto (pc := 72) C (tgt := 76) dX11_ruleOne_72 (by decide) ?_
              refine g_sub [0, 1, 2, 3, 4, 5, 6, 7] [1, 0, 3, 4] (by decide) rfl rfl rfl ?_
              exact H76 _ _ _ _ _ _ _ _ _ _ hf
  unfold fX11_ruleOne at hf
  refine g_aload_n (pc := 0) C 0 dX11_ruleOne_0 rfl rfl ?_
  refine g_iconst (pc := 1) C dX11_ruleOne_1 ?_
  refine g_put (pc := 2) C zf_X11_138 tyX11 tyX11_ok nmX11 (v := .int (zI 0)) (ws' := [((aMo 0), .inr (11, [.ref (aMo 1), .int (zI mo_taped), .ref (aMo 3), .ref (aMo 4), .ref (aMo 5), .ref (aMo 6), .ref (aMo 7), .ref (aMo 8), .ref (aMo 9), .ref (aMo 10), .ref (aMo 11), .ref (aMo 12), .ref (aMo 13), .ref (aMo 14), .ref (aMo 15), .ref (aMo 16), .int (zI mo_size), .int (zI mo_runs), .ref (aMo 19), .ref (aMo 20), .ref (aMo 21), .int (zI mo_found), .int (zI 0), .int (zI mo_isParted), .ref (aMo 25), .ref (aMo 26), .ref (aMo 27), .ref (aMo 28), .ref (aMo 29), .int (zI mo_maybes), .int (zI mo_days), .int (zI mo_over2), .int (zI mo_longer), .ref (aMo 34)])), ((aMo 3), .inl (ca 0, 11, .inl (zA mo_rules))), ((aMo 13), .inl (ca 0, 20160, .inl (zA mo_laid))), ((aMo 15), .inl (ca 0, 60, .inl (zA mo_runFrom))), ((aMo 16), .inl (ca 0, 60, .inl (zA mo_runTo))), ((aMo 19), .inl (ca 0, 400, .inl (zA mo_foundAt))), ((aMo 20), .inl (ca 0, 400, .inl (zA mo_foundRule))), ((aMo 21), .inl (ca 0, 400, .inl (zA mo_foundMany)))]) 0 rfl rfl rfl rfl rfl (Nat.le_of_ble_eq_true rfl) rfl rfl dX11_ruleOne_2 ?_
  refine g_aload_n (pc := 5) C 0 dX11_ruleOne_5 rfl rfl ?_
  refine g_iconst (pc := 6) C dX11_ruleOne_6 ?_
  refine g_put (pc := 7) C zf_X11_134 tyX11 tyX11_ok nmX11 (v := .int (zI 0)) (ws' := [((aMo 0), .inr (11, [.ref (aMo 1), .int (zI mo_taped), .ref (aMo 3), .ref (aMo 4), .ref (aMo 5), .ref (aMo 6), .ref (aMo 7), .ref (aMo 8), .ref (aMo 9), .ref (aMo 10), .ref (aMo 11), .ref (aMo 12), .ref (aMo 13), .ref (aMo 14), .ref (aMo 15), .ref (aMo 16), .int (zI mo_size), .int (zI mo_runs), .ref (aMo 19), .ref (aMo 20), .ref (aMo 21), .int (zI mo_found), .int (zI 0), .int (zI 0), .ref (aMo 25), .ref (aMo 26), .ref (aMo 27), .ref (aMo 28), .ref (aMo 29), .int (zI mo_maybes), .int (zI mo_days), .int (zI mo_over2), .int (zI mo_longer), .ref (aMo 34)])), ((aMo 3), .inl (ca 0, 11, .inl (zA mo_rules))), ((aMo 13), .inl (ca 0, 20160, .inl (zA mo_laid))), ((aMo 15), .inl (ca 0, 60, .inl (zA mo_runFrom))), ((aMo 16), .inl (ca 0, 60, .inl (zA mo_runTo))), ((aMo 19), .inl (ca 0, 400, .inl (zA mo_foundAt))), ((aMo 20), .inl (ca 0, 400, .inl (zA mo_foundRule))), ((aMo 21), .inl (ca 0, 400, .inl (zA mo_foundMany)))]) 0 rfl rfl rfl (by decide) (by decide) (Nat.le_of_ble_eq_true rfl) rfl rfl dX11_ruleOne_7 ?_
  refine g_iconst (pc := 10) C dX11_ruleOne_10 ?_
  refine g_istore_n (pc := 11) C (lv' := [(1, .int (zI 0)), (0, .ref (aMo 0))]) dX11_ruleOne_11 rfl (Nat.le_of_ble_eq_true rfl) rfl ?_
  refine g_iconst (pc := 12) C dX11_ruleOne_12 ?_
  refine g_istore_n (pc := 13) C (lv' := [(2, .int (zI (-1))), (1, .int (zI 0)), (0, .ref (aMo 0))]) dX11_ruleOne_13 rfl (Nat.le_of_ble_eq_true rfl) rfl ?_
  refine g_iconst (pc := 14) C dX11_ruleOne_14 ?_
  refine g_istore_n (pc := 15) C (lv' := [(3, .int (zI 0)), (2, .int (zI (-1))), (1, .int (zI 0)), (0, .ref (aMo 0))]) dX11_ruleOne_15 rfl (Nat.le_of_ble_eq_true rfl) rfl ?_
  refine g_iconst (pc := 16) C dX11_ruleOne_16 ?_
  refine g_istore (pc := 17) C (lv' := [(4, .int (zI 0)), (3, .int (zI 0)), (2, .int (zI (-1))), (1, .int (zI 0)), (0, .ref (aMo 0))]) dX11_ruleOne_17 (Nat.le_of_ble_eq_true rfl) rfl ?_
  refine g_sub [0, 1, 2, 3, 4, 5, 6, 7] [4, 3, 2, 1, 0] (by decide) rfl rfl rfl ?_
  exact H19 _ _ _ _ _ _ _ _ _ _ _ hf
set_option maxRecDepth 100000 in
theorem kX11_finds (l : Launch) (D : va_G) (ca : Nat → ClassId) (aMo : Nat → Nat) (mo_taped : Int) (mo_rules : Nat → Int) (mo_runFrom : Nat → Int) (mo_runTo : Nat → Int) (mo_size : Int) (mo_runs : Int) (mo_found : Int) (mo_counted : Int) (mo_isParted : Int) (mo_maybe : Nat → Int) (mo_maybes : Int) (mo_days : Int) (mo_over2 : Int) (mo_longer : Int)  (mo_maybe_o : Nat → Int) (mo_maybes_o : Int)
    (hf : fX11_finds mo_rules mo_runFrom mo_runTo mo_runs mo_maybe mo_maybes = some (mo_maybe_o, mo_maybes_o)) : Zc l D ca yX11_finds cX11_finds 2 none { frames := 1, cells := 0, slots := 0, locals := 21 } [.ref (aMo 0)] [((aMo 0), .inr (11, [.ref (aMo 1), .int (zI mo_taped), .ref (aMo 3), .ref (aMo 4), .ref (aMo 5), .ref (aMo 6), .ref (aMo 7), .ref (aMo 8), .ref (aMo 9), .ref (aMo 10), .ref (aMo 11), .ref (aMo 12), .ref (aMo 13), .ref (aMo 14), .ref (aMo 15), .ref (aMo 16), .int (zI mo_size), .int (zI mo_runs), .ref (aMo 19), .ref (aMo 20), .ref (aMo 21), .int (zI mo_found), .int (zI mo_counted), .int (zI mo_isParted), .ref (aMo 25), .ref (aMo 26), .ref (aMo 27), .ref (aMo 28), .ref (aMo 29), .int (zI mo_maybes), .int (zI mo_days), .int (zI mo_over2), .int (zI mo_longer), .ref (aMo 34)])), ((aMo 3), .inl (ca 0, 11, .inl (zA mo_rules))), ((aMo 15), .inl (ca 0, 60, .inl (zA mo_runFrom))), ((aMo 16), .inl (ca 0, 60, .inl (zA mo_runTo))), ((aMo 25), .inl (ca 0, 12, .inl (zA mo_maybe)))] none (fun _ => [((aMo 0), .inr (11, [.ref (aMo 1), .int (zI mo_taped), .ref (aMo 3), .ref (aMo 4), .ref (aMo 5), .ref (aMo 6), .ref (aMo 7), .ref (aMo 8), .ref (aMo 9), .ref (aMo 10), .ref (aMo 11), .ref (aMo 12), .ref (aMo 13), .ref (aMo 14), .ref (aMo 15), .ref (aMo 16), .int (zI mo_size), .int (zI mo_runs), .ref (aMo 19), .ref (aMo 20), .ref (aMo 21), .int (zI mo_found), .int (zI mo_counted), .int (zI mo_isParted), .ref (aMo 25), .ref (aMo 26), .ref (aMo 27), .ref (aMo 28), .ref (aMo 29), .int (zI mo_maybes_o), .int (zI mo_days), .int (zI mo_over2), .int (zI mo_longer), .ref (aMo 34)])), ((aMo 3), .inl (ca 0, 11, .inl (zA mo_rules))), ((aMo 15), .inl (ca 0, 60, .inl (zA mo_runFrom))), ((aMo 16), .inl (ca 0, 60, .inl (zA mo_runTo))), ((aMo 25), .inl (ca 0, 12, .inl (zA mo_maybe_o)))]) := by
  refine ctr_of (lv := [(0, .ref (aMo 0))]) (by decide +kernel) (Nat.le_of_ble_eq_true rfl) rfl (fun Γ hl0 C E hnm => ?_)
  have H7 : ∀  (n7 : Nat) (v1 : Int) (mo_maybe : Nat → Int) (mo_maybes : Int), zlp (fX11_finds_7 mo_rules mo_runFrom mo_runTo mo_runs) n7 (v1, mo_maybe, mo_maybes) = some (mo_maybe_o, mo_maybes_o) → Zd D Γ 0 0 [((aMo 0), .inr (11, [.ref (aMo 1), .int (zI mo_taped), .ref (aMo 3), .ref (aMo 4), .ref (aMo 5), .ref (aMo 6), .ref (aMo 7), .ref (aMo 8), .ref (aMo 9), .ref (aMo 10), .ref (aMo 11), .ref (aMo 12), .ref (aMo 13), .ref (aMo 14), .ref (aMo 15), .ref (aMo 16), .int (zI mo_size), .int (zI mo_runs), .ref (aMo 19), .ref (aMo 20), .ref (aMo 21), .int (zI mo_found), .int (zI mo_counted), .int (zI mo_isParted), .ref (aMo 25), .ref (aMo 26), .ref (aMo 27), .ref (aMo 28), .ref (aMo 29), .int (zI mo_maybes), .int (zI mo_days), .int (zI mo_over2), .int (zI mo_longer), .ref (aMo 34)])), ((aMo 3), .inl (ca 0, 11, .inl (zA mo_rules))), ((aMo 15), .inl (ca 0, 60, .inl (zA mo_runFrom))), ((aMo 16), .inl (ca 0, 60, .inl (zA mo_runTo))), ((aMo 25), .inl (ca 0, 12, .inl (zA mo_maybe)))] 7 [(0, .ref (aMo 0)), (1, .int (zI v1))] [] := by
    intro n7
    induction n7 with
    | zero =>
      intro v1 mo_maybe mo_maybes hf
      exact zno hf
    | succ n7 ih7 =>
      have H77 : ∀ (v1 : Int) (mo_maybe : Nat → Int) (mo_maybes : Int), fX11_finds_77 (zlp (fX11_finds_7 mo_rules mo_runFrom mo_runTo mo_runs) n7) v1 mo_maybe mo_maybes = some (mo_maybe_o, mo_maybes_o) → Zd D Γ 0 0 [((aMo 0), .inr (11, [.ref (aMo 1), .int (zI mo_taped), .ref (aMo 3), .ref (aMo 4), .ref (aMo 5), .ref (aMo 6), .ref (aMo 7), .ref (aMo 8), .ref (aMo 9), .ref (aMo 10), .ref (aMo 11), .ref (aMo 12), .ref (aMo 13), .ref (aMo 14), .ref (aMo 15), .ref (aMo 16), .int (zI mo_size), .int (zI mo_runs), .ref (aMo 19), .ref (aMo 20), .ref (aMo 21), .int (zI mo_found), .int (zI mo_counted), .int (zI mo_isParted), .ref (aMo 25), .ref (aMo 26), .ref (aMo 27), .ref (aMo 28), .ref (aMo 29), .int (zI mo_maybes), .int (zI mo_days), .int (zI mo_over2), .int (zI mo_longer), .ref (aMo 34)])), ((aMo 3), .inl (ca 0, 11, .inl (zA mo_rules))), ((aMo 15), .inl (ca 0, 60, .inl (zA mo_runFrom))), ((aMo 16), .inl (ca 0, 60, .inl (zA mo_runTo))), ((aMo 25), .inl (ca 0, 12, .inl (zA mo_maybe)))] 77 [(0, .ref (aMo 0)), (1, .int (zI v1))] [] := by
        intro v1 mo_maybe mo_maybes hf
        unfold fX11_finds_77 at hf
        refine g_iinc (pc := 77) C 1 (lv' := [(1, .int (zI (v1 + 1))), (0, .ref (aMo 0))]) dX11_finds_77 rfl (Nat.le_of_ble_eq_true rfl) rfl ?_
        refine g_goto (pc := 80) C (tgt := 7) dX11_finds_80 (by decide) ?_
        refine g_sub [0, 1, 2, 3, 4] [1, 0] (by decide) rfl rfl rfl ?_
        exact ih7 _ _ _ hf
      intro v1 mo_maybe mo_maybes hf
      rw [zlp_s] at hf
      unfold fX11_finds_7 at hf
      dsimp only at hf
      refine g_iload_n (pc := 7) C 1 dX11_finds_7 rfl rfl ?_
      refine g_aload_n (pc := 8) C 0 dX11_finds_8 rfl rfl ?_
      refine g_get (pc := 9) C zf_X11_128 0 rfl rfl dX11_finds_9 ?_
      refine g_icmp_ge (pc := 12) C (tgt := 83) dX11_finds_12 (by decide) hf (fun hf => ?_) (fun hf => ?_)
      · cases hf
        exact g_vret (pc := 83) C E (fun _ => 0) [0, 1, 2, 3, 4] (by decide) rfl rfl (Nat.le_refl _) (Nat.le_refl _) dX11_finds_83
      · refine g_aload_n (pc := 15) C 0 dX11_finds_15 rfl rfl ?_
        refine g_get (pc := 16) C zf_X11_151 0 rfl rfl dX11_finds_16 ?_
        refine g_bipush (pc := 19) C dX11_finds_19 (by decide) ?_
        refine g_icmp_ger (pc := 21) C (tgt := 83) dX11_finds_21 (by decide) (by decide) hf (fun hf => ?_) (fun hf => ?_)
        · cases hf
          exact g_vret (pc := 83) C E (fun _ => 0) [0, 1, 2, 3, 4] (by decide) rfl rfl (Nat.le_refl _) (Nat.le_refl _) dX11_finds_83
        · refine g_aload_n (pc := 24) C 0 dX11_finds_24 rfl rfl ?_
          refine g_iload_n (pc := 25) C 1 dX11_finds_25 rfl rfl ?_
          obtain ⟨r_26, hc_26, hf⟩ := Option.bind_eq_some_iff.mp hf
          refine g_callV (pc := 26) C hl0 (wr := [((aMo 3), .inl (ca 0, 11, .inl (zA mo_rules))), ((aMo 25), .inl (ca 0, 12, .inl (zA mo_maybe)))]) (k' := 0) (n' := 0) (ws' := fun _ => [((aMo 3), .inl (ca 0, 11, .inl (zA mo_rules))), ((aMo 25), .inl (ca 0, 12, .inl (zA mo_maybe))), ((aMo 0), .inr (11, [.ref (aMo 1), .int (zI mo_taped), .ref (aMo 3), .ref (aMo 4), .ref (aMo 5), .ref (aMo 6), .ref (aMo 7), .ref (aMo 8), .ref (aMo 9), .ref (aMo 10), .ref (aMo 11), .ref (aMo 12), .ref (aMo 13), .ref (aMo 14), .ref (aMo 15), .ref (aMo 16), .int (zI mo_size), .int (zI mo_runs), .ref (aMo 19), .ref (aMo 20), .ref (aMo 21), .int (zI mo_found), .int (zI mo_counted), .int (zI mo_isParted), .ref (aMo 25), .ref (aMo 26), .ref (aMo 27), .ref (aMo 28), .ref (aMo 29), .int (zI mo_maybes), .int (zI mo_days), .int (zI mo_over2), .int (zI mo_longer), .ref (aMo 34)])), ((aMo 15), .inl (ca 0, 60, .inl (zA mo_runFrom))), ((aMo 16), .inl (ca 0, 60, .inl (zA mo_runTo)))]) (st' := [.int (zI r_26)]) (kX11_runLength l D ca aMo mo_taped mo_runFrom mo_runTo mo_size mo_runs mo_found mo_counted mo_isParted mo_maybes mo_days mo_over2 mo_longer v1 r_26 hc_26) wml_RX11_141 wim_X11_runLength wse_X11_runLength win_RX11 wco_X11_runLength (nA := 1) rfl (by decide +kernel)  ⟨(Nat.le_of_ble_eq_true rfl), (Nat.le_of_ble_eq_true rfl)⟩ (Nat.le_refl _) (Nat.le_refl _) rfl (by decide) dX11_finds_26 0 11 rfl rfl rfl [0, 2, 3] [1, 4] rfl rfl rfl (by decide) (by decide) (by decide) rfl rfl (fun _ => rfl) rfl (fun _ => ?_)
          refine g_aload_n (pc := 29) C 0 dX11_finds_29 rfl rfl ?_
          refine g_get (pc := 30) C zf_X11_13 2 rfl rfl dX11_finds_30 ?_
          refine g_bipush (pc := 33) C dX11_finds_33 (by decide) ?_
          refine g_ialdK (pc := 35) C 8 0 rfl rfl (Nat.le_of_ble_eq_true rfl) (Nat.le_of_ble_eq_true rfl) dX11_finds_35 ?_
          refine g_icmp_lt (pc := 36) C (tgt := 77) dX11_finds_36 (by decide) hf (fun hf => ?_) (fun hf => ?_)
          · refine g_sub [2, 0, 3, 4, 1] [0, 1] (by decide) rfl rfl rfl ?_
            exact H77 _ _ _ hf
          · refine g_aload_n (pc := 39) C 0 dX11_finds_39 rfl rfl ?_
            refine g_iload_n (pc := 40) C 1 dX11_finds_40 rfl rfl ?_
            obtain ⟨r_41, hc_41, hf⟩ := Option.bind_eq_some_iff.mp hf
            refine g_callV (pc := 41) C hl0 (wr := [((aMo 3), .inl (ca 0, 11, .inl (zA mo_rules))), ((aMo 25), .inl (ca 0, 12, .inl (zA mo_maybe)))]) (k' := 0) (n' := 0) (ws' := fun _ => [((aMo 3), .inl (ca 0, 11, .inl (zA mo_rules))), ((aMo 25), .inl (ca 0, 12, .inl (zA mo_maybe))), ((aMo 0), .inr (11, [.ref (aMo 1), .int (zI mo_taped), .ref (aMo 3), .ref (aMo 4), .ref (aMo 5), .ref (aMo 6), .ref (aMo 7), .ref (aMo 8), .ref (aMo 9), .ref (aMo 10), .ref (aMo 11), .ref (aMo 12), .ref (aMo 13), .ref (aMo 14), .ref (aMo 15), .ref (aMo 16), .int (zI mo_size), .int (zI mo_runs), .ref (aMo 19), .ref (aMo 20), .ref (aMo 21), .int (zI mo_found), .int (zI mo_counted), .int (zI mo_isParted), .ref (aMo 25), .ref (aMo 26), .ref (aMo 27), .ref (aMo 28), .ref (aMo 29), .int (zI mo_maybes), .int (zI mo_days), .int (zI mo_over2), .int (zI mo_longer), .ref (aMo 34)])), ((aMo 15), .inl (ca 0, 60, .inl (zA mo_runFrom))), ((aMo 16), .inl (ca 0, 60, .inl (zA mo_runTo)))]) (st' := [.int (zI r_41)]) (kX11_runLength l D ca aMo mo_taped mo_runFrom mo_runTo mo_size mo_runs mo_found mo_counted mo_isParted mo_maybes mo_days mo_over2 mo_longer v1 r_41 hc_41) wml_RX11_141 wim_X11_runLength wse_X11_runLength win_RX11 wco_X11_runLength (nA := 1) rfl (by decide +kernel)  ⟨(Nat.le_of_ble_eq_true rfl), (Nat.le_of_ble_eq_true rfl)⟩ (Nat.le_refl _) (Nat.le_refl _) rfl (by decide) dX11_finds_41 2 11 rfl rfl rfl [2, 3, 4] [0, 1] rfl rfl rfl (by decide) (by decide) (by decide) rfl rfl (fun _ => rfl) rfl (fun _ => ?_)
            refine g_aload_n (pc := 44) C 0 dX11_finds_44 rfl rfl ?_
            refine g_get (pc := 45) C zf_X11_13 2 rfl rfl dX11_finds_45 ?_
            refine g_bipush (pc := 48) C dX11_finds_48 (by decide) ?_
            refine g_ialdK (pc := 50) C 7 0 rfl rfl (Nat.le_of_ble_eq_true rfl) (Nat.le_of_ble_eq_true rfl) dX11_finds_50 ?_
            refine g_icmp_lt (pc := 51) C (tgt := 57) dX11_finds_51 (by decide) hf (fun hf => ?_) (fun hf => ?_)
            · refine g_aload_n (pc := 57) C 0 dX11_finds_57 rfl rfl ?_
              refine g_get (pc := 58) C zf_X11_65 2 rfl rfl dX11_finds_58 ?_
              refine g_aload_n (pc := 61) C 0 dX11_finds_61 rfl rfl ?_
              refine g_get (pc := 62) C zf_X11_151 2 rfl rfl dX11_finds_62 ?_
              refine g_iload_n (pc := 65) C 1 dX11_finds_65 rfl rfl ?_
              refine g_iast (pc := 66) C (N := 12) (ws' := [((aMo 3), .inl (ca 0, 11, .inl (zA mo_rules))), ((aMo 25), .inl (ca 0, 12, .inl (zA (zU mo_maybe mo_maybes.toNat v1)))), ((aMo 0), .inr (11, [.ref (aMo 1), .int (zI mo_taped), .ref (aMo 3), .ref (aMo 4), .ref (aMo 5), .ref (aMo 6), .ref (aMo 7), .ref (aMo 8), .ref (aMo 9), .ref (aMo 10), .ref (aMo 11), .ref (aMo 12), .ref (aMo 13), .ref (aMo 14), .ref (aMo 15), .ref (aMo 16), .int (zI mo_size), .int (zI mo_runs), .ref (aMo 19), .ref (aMo 20), .ref (aMo 21), .int (zI mo_found), .int (zI mo_counted), .int (zI mo_isParted), .ref (aMo 25), .ref (aMo 26), .ref (aMo 27), .ref (aMo 28), .ref (aMo 29), .int (zI mo_maybes), .int (zI mo_days), .int (zI mo_over2), .int (zI mo_longer), .ref (aMo 34)])), ((aMo 15), .inl (ca 0, 60, .inl (zA mo_runFrom))), ((aMo 16), .inl (ca 0, 60, .inl (zA mo_runTo)))]) 1 rfl rfl (Nat.le_of_ble_eq_true rfl) rfl dX11_finds_66 hf (fun hf => ?_)
              refine g_aload_n (pc := 67) C 0 dX11_finds_67 rfl rfl ?_
              refine g_aload_n (pc := 68) C 0 dX11_finds_68 rfl rfl ?_
              refine g_get (pc := 69) C zf_X11_151 2 rfl rfl dX11_finds_69 ?_
              refine g_iconst (pc := 72) C dX11_finds_72 ?_
              refine g_iadd (pc := 73) C dX11_finds_73 ?_
              refine g_put (pc := 74) C zf_X11_151 tyX11 tyX11_ok nmX11 (v := .int (zI (mo_maybes + 1))) (ws' := [((aMo 3), .inl (ca 0, 11, .inl (zA mo_rules))), ((aMo 25), .inl (ca 0, 12, .inl (zA (zU mo_maybe mo_maybes.toNat v1)))), ((aMo 0), .inr (11, [.ref (aMo 1), .int (zI mo_taped), .ref (aMo 3), .ref (aMo 4), .ref (aMo 5), .ref (aMo 6), .ref (aMo 7), .ref (aMo 8), .ref (aMo 9), .ref (aMo 10), .ref (aMo 11), .ref (aMo 12), .ref (aMo 13), .ref (aMo 14), .ref (aMo 15), .ref (aMo 16), .int (zI mo_size), .int (zI mo_runs), .ref (aMo 19), .ref (aMo 20), .ref (aMo 21), .int (zI mo_found), .int (zI mo_counted), .int (zI mo_isParted), .ref (aMo 25), .ref (aMo 26), .ref (aMo 27), .ref (aMo 28), .ref (aMo 29), .int (zI (mo_maybes + 1)), .int (zI mo_days), .int (zI mo_over2), .int (zI mo_longer), .ref (aMo 34)])), ((aMo 15), .inl (ca 0, 60, .inl (zA mo_runFrom))), ((aMo 16), .inl (ca 0, 60, .inl (zA mo_runTo)))]) 2 rfl rfl rfl rfl rfl (Nat.le_of_ble_eq_true rfl) rfl rfl dX11_finds_74 ?_
              refine g_sub [2, 0, 3, 4, 1] [0, 1] (by decide) rfl rfl rfl ?_
              exact H77 _ _ _ hf
            · refine g_goto (pc := 54) C (tgt := 77) dX11_finds_54 (by decide) ?_
              refine g_sub [2, 0, 3, 4, 1] [0, 1] (by decide) rfl rfl rfl ?_
              exact H77 _ _ _ hf
  unfold fX11_finds at hf
  refine g_aload_n (pc := 0) C 0 dX11_finds_0 rfl rfl ?_
  refine g_iconst (pc := 1) C dX11_finds_1 ?_
  refine g_put (pc := 2) C zf_X11_151 tyX11 tyX11_ok nmX11 (v := .int (zI 0)) (ws' := [((aMo 0), .inr (11, [.ref (aMo 1), .int (zI mo_taped), .ref (aMo 3), .ref (aMo 4), .ref (aMo 5), .ref (aMo 6), .ref (aMo 7), .ref (aMo 8), .ref (aMo 9), .ref (aMo 10), .ref (aMo 11), .ref (aMo 12), .ref (aMo 13), .ref (aMo 14), .ref (aMo 15), .ref (aMo 16), .int (zI mo_size), .int (zI mo_runs), .ref (aMo 19), .ref (aMo 20), .ref (aMo 21), .int (zI mo_found), .int (zI mo_counted), .int (zI mo_isParted), .ref (aMo 25), .ref (aMo 26), .ref (aMo 27), .ref (aMo 28), .ref (aMo 29), .int (zI 0), .int (zI mo_days), .int (zI mo_over2), .int (zI mo_longer), .ref (aMo 34)])), ((aMo 3), .inl (ca 0, 11, .inl (zA mo_rules))), ((aMo 15), .inl (ca 0, 60, .inl (zA mo_runFrom))), ((aMo 16), .inl (ca 0, 60, .inl (zA mo_runTo))), ((aMo 25), .inl (ca 0, 12, .inl (zA mo_maybe)))]) 0 rfl rfl rfl rfl rfl (Nat.le_of_ble_eq_true rfl) rfl rfl dX11_finds_2 ?_
  refine g_iconst (pc := 5) C dX11_finds_5 ?_
  refine g_istore_n (pc := 6) C (lv' := [(1, .int (zI 0)), (0, .ref (aMo 0))]) dX11_finds_6 rfl (Nat.le_of_ble_eq_true rfl) rfl ?_
  refine g_sub [0, 1, 2, 3, 4] [1, 0] (by decide) rfl rfl rfl ?_
  exact H7 _ _ _ _ hf
set_option maxRecDepth 100000 in
theorem kX11_isTaken (l : Launch) (D : va_G) (ca : Nat → ClassId) (aMo : Nat → Nat) (mo_taped : Int) (mo_size : Int) (mo_runs : Int) (mo_found : Int) (mo_counted : Int) (mo_isParted : Int) (mo_maybe : Nat → Int) (mo_maybes : Int) (mo_days : Int) (mo_over2 : Int) (mo_longer : Int) (v1 : Int) (v2 : Int) (r_o : Int)
    (hf : fX11_isTaken v1 v2 mo_maybe mo_maybes = some r_o) : Zc l D ca yX11_isTaken cX11_isTaken 4 (some .boolean) { frames := 0, cells := 0, slots := 0, locals := 0 } [.ref (aMo 0), .int (zI v1), .int (zI v2)] [((aMo 0), .inr (11, [.ref (aMo 1), .int (zI mo_taped), .ref (aMo 3), .ref (aMo 4), .ref (aMo 5), .ref (aMo 6), .ref (aMo 7), .ref (aMo 8), .ref (aMo 9), .ref (aMo 10), .ref (aMo 11), .ref (aMo 12), .ref (aMo 13), .ref (aMo 14), .ref (aMo 15), .ref (aMo 16), .int (zI mo_size), .int (zI mo_runs), .ref (aMo 19), .ref (aMo 20), .ref (aMo 21), .int (zI mo_found), .int (zI mo_counted), .int (zI mo_isParted), .ref (aMo 25), .ref (aMo 26), .ref (aMo 27), .ref (aMo 28), .ref (aMo 29), .int (zI mo_maybes), .int (zI mo_days), .int (zI mo_over2), .int (zI mo_longer), .ref (aMo 34)])), ((aMo 25), .inl (ca 0, 12, .inl (zA mo_maybe)))] (some (.int (zI r_o))) (fun _ => [((aMo 0), .inr (11, [.ref (aMo 1), .int (zI mo_taped), .ref (aMo 3), .ref (aMo 4), .ref (aMo 5), .ref (aMo 6), .ref (aMo 7), .ref (aMo 8), .ref (aMo 9), .ref (aMo 10), .ref (aMo 11), .ref (aMo 12), .ref (aMo 13), .ref (aMo 14), .ref (aMo 15), .ref (aMo 16), .int (zI mo_size), .int (zI mo_runs), .ref (aMo 19), .ref (aMo 20), .ref (aMo 21), .int (zI mo_found), .int (zI mo_counted), .int (zI mo_isParted), .ref (aMo 25), .ref (aMo 26), .ref (aMo 27), .ref (aMo 28), .ref (aMo 29), .int (zI mo_maybes), .int (zI mo_days), .int (zI mo_over2), .int (zI mo_longer), .ref (aMo 34)])), ((aMo 25), .inl (ca 0, 12, .inl (zA mo_maybe)))]) := by
  refine ctr_of (lv := [(0, .ref (aMo 0)), (1, .int (zI v1)), (2, .int (zI v2))]) (by decide +kernel) (Nat.le_of_ble_eq_true rfl) rfl (fun Γ hl0 C E hnm => ?_)
  have H2 : ∀  (n2 : Nat) (v3 : Int), zlp (fX11_isTaken_2 v1 v2 mo_maybe mo_maybes) n2 v3 = some r_o → Zd D Γ 0 0 [((aMo 0), .inr (11, [.ref (aMo 1), .int (zI mo_taped), .ref (aMo 3), .ref (aMo 4), .ref (aMo 5), .ref (aMo 6), .ref (aMo 7), .ref (aMo 8), .ref (aMo 9), .ref (aMo 10), .ref (aMo 11), .ref (aMo 12), .ref (aMo 13), .ref (aMo 14), .ref (aMo 15), .ref (aMo 16), .int (zI mo_size), .int (zI mo_runs), .ref (aMo 19), .ref (aMo 20), .ref (aMo 21), .int (zI mo_found), .int (zI mo_counted), .int (zI mo_isParted), .ref (aMo 25), .ref (aMo 26), .ref (aMo 27), .ref (aMo 28), .ref (aMo 29), .int (zI mo_maybes), .int (zI mo_days), .int (zI mo_over2), .int (zI mo_longer), .ref (aMo 34)])), ((aMo 25), .inl (ca 0, 12, .inl (zA mo_maybe)))] 2 [(0, .ref (aMo 0)), (1, .int (zI v1)), (2, .int (zI v2)), (3, .int (zI v3))] [] := by
    intro n2
    induction n2 with
    | zero =>
      intro v3 hf
      exact zno hf
    | succ n2 ih2 =>
      intro v3 hf
      rw [zlp_s] at hf
      unfold fX11_isTaken_2 at hf
      refine g_iload_n (pc := 2) C 3 dX11_isTaken_2 rfl rfl ?_
      refine g_aload_n (pc := 3) C 0 dX11_isTaken_3 rfl rfl ?_
      refine g_get (pc := 4) C zf_X11_151 0 rfl rfl dX11_isTaken_4 ?_
      refine g_icmp_ge (pc := 7) C (tgt := 41) dX11_isTaken_7 (by decide) hf (fun hf => ?_) (fun hf => ?_)
      · refine g_iconst (pc := 41) C dX11_isTaken_41 ?_
        cases hf
        exact g_zret (pc := 42) C E (by decide) (fun _ => 0) [0, 1] (by decide) rfl rfl (Nat.le_refl _) (Nat.le_refl _) dX11_isTaken_42
      · refine g_aload_n (pc := 10) C 0 dX11_isTaken_10 rfl rfl ?_
        refine g_get (pc := 11) C zf_X11_65 0 rfl rfl dX11_isTaken_11 ?_
        refine g_iload_n (pc := 14) C 3 dX11_isTaken_14 rfl rfl ?_
        refine g_iald (pc := 15) C (N := 12) 1 rfl rfl (Nat.le_of_ble_eq_true rfl) dX11_isTaken_15 hf (fun hf => ?_)
        refine g_iload_n (pc := 16) C 1 dX11_isTaken_16 rfl rfl ?_
        refine g_icmp_ne (pc := 17) C (tgt := 35) dX11_isTaken_17 (by decide) hf (fun hf => ?_) (fun hf => ?_)
        · refine g_iinc (pc := 35) C 3 (lv' := [(3, .int (zI (v3 + 1))), (0, .ref (aMo 0)), (1, .int (zI v1)), (2, .int (zI v2))]) dX11_isTaken_35 rfl (Nat.le_of_ble_eq_true rfl) rfl ?_
          refine g_goto (pc := 38) C (tgt := 2) dX11_isTaken_38 (by decide) ?_
          refine g_sub [0, 1] [1, 2, 3, 0] (by decide) rfl rfl rfl ?_
          exact ih2 _ hf
        · refine g_iload_n (pc := 20) C 2 dX11_isTaken_20 rfl rfl ?_
          refine g_iload_n (pc := 21) C 3 dX11_isTaken_21 rfl rfl ?_
          refine g_ishr (pc := 22) C dX11_isTaken_22 ?_
          refine g_iconst (pc := 23) C dX11_isTaken_23 ?_
          refine g_iand (pc := 24) C dX11_isTaken_24 ?_
          refine g_iconst (pc := 25) C dX11_isTaken_25 ?_
          refine g_icmp_ner (pc := 26) C (tgt := 33) dX11_isTaken_26 (by decide) (by decide) hf (fun hf => ?_) (fun hf => ?_)
          · refine g_iconst (pc := 33) C dX11_isTaken_33 ?_
            cases hf
            exact g_zret (pc := 34) C E (by decide) (fun _ => 0) [0, 1] (by decide) rfl rfl (Nat.le_refl _) (Nat.le_refl _) dX11_isTaken_34
          · refine g_iconst (pc := 29) C dX11_isTaken_29 ?_
            refine g_goto (pc := 30) C (tgt := 34) dX11_isTaken_30 (by decide) ?_
            cases hf
            exact g_zret (pc := 34) C E (by decide) (fun _ => 0) [0, 1] (by decide) rfl rfl (Nat.le_refl _) (Nat.le_refl _) dX11_isTaken_34
  unfold fX11_isTaken at hf
  refine g_iconst (pc := 0) C dX11_isTaken_0 ?_
  refine g_istore_n (pc := 1) C (lv' := [(3, .int (zI 0)), (0, .ref (aMo 0)), (1, .int (zI v1)), (2, .int (zI v2))]) dX11_isTaken_1 rfl (Nat.le_of_ble_eq_true rfl) rfl ?_
  refine g_sub [0, 1] [1, 2, 3, 0] (by decide) rfl rfl rfl ?_
  exact H2 _ _ hf
set_option maxRecDepth 100000 in
theorem kX11_parts (l : Launch) (D : va_G) (ca : Nat → ClassId) (aMo : Nat → Nat) (mo_taped : Int) (mo_rules : Nat → Int) (mo_runFrom : Nat → Int) (mo_runTo : Nat → Int) (mo_size : Int) (mo_runs : Int) (mo_found : Int) (mo_counted : Int) (mo_isParted : Int) (mo_maybe : Nat → Int) (mo_dayFrom : Nat → Int) (mo_dayTo : Nat → Int) (mo_dayRun : Nat → Int) (mo_maybes : Int) (mo_days : Int) (mo_over2 : Int) (mo_longer : Int) (v1 : Int) (mo_dayFrom_o : Nat → Int) (mo_dayTo_o : Nat → Int) (mo_dayRun_o : Nat → Int) (mo_days_o : Int)
    (hf : fX11_parts v1 mo_rules mo_runFrom mo_runTo mo_size mo_runs mo_maybe mo_dayFrom mo_dayTo mo_dayRun mo_maybes mo_days = some (mo_dayFrom_o, mo_dayTo_o, mo_dayRun_o, mo_days_o)) : Zc l D ca yX11_parts cX11_parts 4 none { frames := 1, cells := 0, slots := 0, locals := 23 } [.ref (aMo 0), .int (zI v1)] [((aMo 0), .inr (11, [.ref (aMo 1), .int (zI mo_taped), .ref (aMo 3), .ref (aMo 4), .ref (aMo 5), .ref (aMo 6), .ref (aMo 7), .ref (aMo 8), .ref (aMo 9), .ref (aMo 10), .ref (aMo 11), .ref (aMo 12), .ref (aMo 13), .ref (aMo 14), .ref (aMo 15), .ref (aMo 16), .int (zI mo_size), .int (zI mo_runs), .ref (aMo 19), .ref (aMo 20), .ref (aMo 21), .int (zI mo_found), .int (zI mo_counted), .int (zI mo_isParted), .ref (aMo 25), .ref (aMo 26), .ref (aMo 27), .ref (aMo 28), .ref (aMo 29), .int (zI mo_maybes), .int (zI mo_days), .int (zI mo_over2), .int (zI mo_longer), .ref (aMo 34)])), ((aMo 3), .inl (ca 0, 11, .inl (zA mo_rules))), ((aMo 15), .inl (ca 0, 60, .inl (zA mo_runFrom))), ((aMo 16), .inl (ca 0, 60, .inl (zA mo_runTo))), ((aMo 25), .inl (ca 0, 12, .inl (zA mo_maybe))), ((aMo 26), .inl (ca 0, 62, .inl (zA mo_dayFrom))), ((aMo 27), .inl (ca 0, 62, .inl (zA mo_dayTo))), ((aMo 28), .inl (ca 0, 62, .inl (zA mo_dayRun)))] none (fun _ => [((aMo 0), .inr (11, [.ref (aMo 1), .int (zI mo_taped), .ref (aMo 3), .ref (aMo 4), .ref (aMo 5), .ref (aMo 6), .ref (aMo 7), .ref (aMo 8), .ref (aMo 9), .ref (aMo 10), .ref (aMo 11), .ref (aMo 12), .ref (aMo 13), .ref (aMo 14), .ref (aMo 15), .ref (aMo 16), .int (zI mo_size), .int (zI mo_runs), .ref (aMo 19), .ref (aMo 20), .ref (aMo 21), .int (zI mo_found), .int (zI mo_counted), .int (zI mo_isParted), .ref (aMo 25), .ref (aMo 26), .ref (aMo 27), .ref (aMo 28), .ref (aMo 29), .int (zI mo_maybes), .int (zI mo_days_o), .int (zI mo_over2), .int (zI mo_longer), .ref (aMo 34)])), ((aMo 3), .inl (ca 0, 11, .inl (zA mo_rules))), ((aMo 15), .inl (ca 0, 60, .inl (zA mo_runFrom))), ((aMo 16), .inl (ca 0, 60, .inl (zA mo_runTo))), ((aMo 25), .inl (ca 0, 12, .inl (zA mo_maybe))), ((aMo 26), .inl (ca 0, 62, .inl (zA mo_dayFrom_o))), ((aMo 27), .inl (ca 0, 62, .inl (zA mo_dayTo_o))), ((aMo 28), .inl (ca 0, 62, .inl (zA mo_dayRun_o)))]) := by
  refine ctr_of (lv := [(0, .ref (aMo 0)), (1, .int (zI v1))]) (by decide +kernel) (Nat.le_of_ble_eq_true rfl) rfl (fun Γ hl0 C E hnm => ?_)
  have H9 : ∀  (n9 : Nat) (v2 : Int) (v3 : Int) (mo_dayFrom : Nat → Int) (mo_dayTo : Nat → Int) (mo_dayRun : Nat → Int) (mo_days : Int), zlp (fX11_parts_9 v1 mo_rules mo_runFrom mo_runTo mo_size mo_runs mo_maybe mo_maybes) n9 (v2, v3, mo_dayFrom, mo_dayTo, mo_dayRun, mo_days) = some (mo_dayFrom_o, mo_dayTo_o, mo_dayRun_o, mo_days_o) → Zd D Γ 0 0 [((aMo 0), .inr (11, [.ref (aMo 1), .int (zI mo_taped), .ref (aMo 3), .ref (aMo 4), .ref (aMo 5), .ref (aMo 6), .ref (aMo 7), .ref (aMo 8), .ref (aMo 9), .ref (aMo 10), .ref (aMo 11), .ref (aMo 12), .ref (aMo 13), .ref (aMo 14), .ref (aMo 15), .ref (aMo 16), .int (zI mo_size), .int (zI mo_runs), .ref (aMo 19), .ref (aMo 20), .ref (aMo 21), .int (zI mo_found), .int (zI mo_counted), .int (zI mo_isParted), .ref (aMo 25), .ref (aMo 26), .ref (aMo 27), .ref (aMo 28), .ref (aMo 29), .int (zI mo_maybes), .int (zI mo_days), .int (zI mo_over2), .int (zI mo_longer), .ref (aMo 34)])), ((aMo 3), .inl (ca 0, 11, .inl (zA mo_rules))), ((aMo 15), .inl (ca 0, 60, .inl (zA mo_runFrom))), ((aMo 16), .inl (ca 0, 60, .inl (zA mo_runTo))), ((aMo 25), .inl (ca 0, 12, .inl (zA mo_maybe))), ((aMo 26), .inl (ca 0, 62, .inl (zA mo_dayFrom))), ((aMo 27), .inl (ca 0, 62, .inl (zA mo_dayTo))), ((aMo 28), .inl (ca 0, 62, .inl (zA mo_dayRun)))] 9 [(0, .ref (aMo 0)), (1, .int (zI v1)), (2, .int (zI v2)), (3, .int (zI v3))] [] := by
    intro n9
    induction n9 with
    | zero =>
      intro v2 v3 mo_dayFrom mo_dayTo mo_dayRun mo_days hf
      exact zno hf
    | succ n9 ih9 =>
      have H96 : ∀ (v2 : Int) (v3 : Int) (mo_dayFrom : Nat → Int) (mo_dayTo : Nat → Int) (mo_dayRun : Nat → Int) (mo_days : Int), fX11_parts_96 (zlp (fX11_parts_9 v1 mo_rules mo_runFrom mo_runTo mo_size mo_runs mo_maybe mo_maybes) n9) v2 v3 mo_dayFrom mo_dayTo mo_dayRun mo_days = some (mo_dayFrom_o, mo_dayTo_o, mo_dayRun_o, mo_days_o) → Zd D Γ 0 0 [((aMo 0), .inr (11, [.ref (aMo 1), .int (zI mo_taped), .ref (aMo 3), .ref (aMo 4), .ref (aMo 5), .ref (aMo 6), .ref (aMo 7), .ref (aMo 8), .ref (aMo 9), .ref (aMo 10), .ref (aMo 11), .ref (aMo 12), .ref (aMo 13), .ref (aMo 14), .ref (aMo 15), .ref (aMo 16), .int (zI mo_size), .int (zI mo_runs), .ref (aMo 19), .ref (aMo 20), .ref (aMo 21), .int (zI mo_found), .int (zI mo_counted), .int (zI mo_isParted), .ref (aMo 25), .ref (aMo 26), .ref (aMo 27), .ref (aMo 28), .ref (aMo 29), .int (zI mo_maybes), .int (zI mo_days), .int (zI mo_over2), .int (zI mo_longer), .ref (aMo 34)])), ((aMo 3), .inl (ca 0, 11, .inl (zA mo_rules))), ((aMo 15), .inl (ca 0, 60, .inl (zA mo_runFrom))), ((aMo 16), .inl (ca 0, 60, .inl (zA mo_runTo))), ((aMo 25), .inl (ca 0, 12, .inl (zA mo_maybe))), ((aMo 26), .inl (ca 0, 62, .inl (zA mo_dayFrom))), ((aMo 27), .inl (ca 0, 62, .inl (zA mo_dayTo))), ((aMo 28), .inl (ca 0, 62, .inl (zA mo_dayRun)))] 96 [(0, .ref (aMo 0)), (1, .int (zI v1)), (2, .int (zI v2)), (3, .int (zI v3))] [] := by
        intro v2 v3 mo_dayFrom mo_dayTo mo_dayRun mo_days hf
        unfold fX11_parts_96 at hf
        refine g_iinc (pc := 96) C 3 (lv' := [(3, .int (zI (v3 + 1))), (0, .ref (aMo 0)), (1, .int (zI v1)), (2, .int (zI v2))]) dX11_parts_96 rfl (Nat.le_of_ble_eq_true rfl) rfl ?_
        refine g_goto (pc := 99) C (tgt := 9) dX11_parts_99 (by decide) ?_
        refine g_sub [0, 1, 2, 3, 4, 5, 6, 7] [1, 2, 3, 0] (by decide) rfl rfl rfl ?_
        exact ih9 _ _ _ _ _ _ hf
      have H44 : ∀ (v2 : Int) (v3 : Int) (mo_dayFrom : Nat → Int) (mo_dayTo : Nat → Int) (mo_dayRun : Nat → Int) (mo_days : Int), fX11_parts_44 (zlp (fX11_parts_9 v1 mo_rules mo_runFrom mo_runTo mo_size mo_runs mo_maybe mo_maybes) n9) v2 v3 mo_runTo mo_dayFrom mo_dayTo mo_dayRun mo_days = some (mo_dayFrom_o, mo_dayTo_o, mo_dayRun_o, mo_days_o) → Zd D Γ 0 0 [((aMo 0), .inr (11, [.ref (aMo 1), .int (zI mo_taped), .ref (aMo 3), .ref (aMo 4), .ref (aMo 5), .ref (aMo 6), .ref (aMo 7), .ref (aMo 8), .ref (aMo 9), .ref (aMo 10), .ref (aMo 11), .ref (aMo 12), .ref (aMo 13), .ref (aMo 14), .ref (aMo 15), .ref (aMo 16), .int (zI mo_size), .int (zI mo_runs), .ref (aMo 19), .ref (aMo 20), .ref (aMo 21), .int (zI mo_found), .int (zI mo_counted), .int (zI mo_isParted), .ref (aMo 25), .ref (aMo 26), .ref (aMo 27), .ref (aMo 28), .ref (aMo 29), .int (zI mo_maybes), .int (zI mo_days), .int (zI mo_over2), .int (zI mo_longer), .ref (aMo 34)])), ((aMo 3), .inl (ca 0, 11, .inl (zA mo_rules))), ((aMo 15), .inl (ca 0, 60, .inl (zA mo_runFrom))), ((aMo 16), .inl (ca 0, 60, .inl (zA mo_runTo))), ((aMo 25), .inl (ca 0, 12, .inl (zA mo_maybe))), ((aMo 26), .inl (ca 0, 62, .inl (zA mo_dayFrom))), ((aMo 27), .inl (ca 0, 62, .inl (zA mo_dayTo))), ((aMo 28), .inl (ca 0, 62, .inl (zA mo_dayRun)))] 44 [(0, .ref (aMo 0)), (1, .int (zI v1)), (2, .int (zI v2)), (3, .int (zI v3))] [] := by
        intro v2 v3 mo_dayFrom mo_dayTo mo_dayRun mo_days hf
        unfold fX11_parts_44 at hf
        refine g_aload_n (pc := 44) C 0 dX11_parts_44 rfl rfl ?_
        refine g_get (pc := 45) C zf_X11_68 0 rfl rfl dX11_parts_45 ?_
        refine g_aload_n (pc := 48) C 0 dX11_parts_48 rfl rfl ?_
        refine g_get (pc := 49) C zf_X11_154 0 rfl rfl dX11_parts_49 ?_
        refine g_iload_n (pc := 52) C 2 dX11_parts_52 rfl rfl ?_
        refine g_iast (pc := 53) C (N := 62) (ws' := [((aMo 0), .inr (11, [.ref (aMo 1), .int (zI mo_taped), .ref (aMo 3), .ref (aMo 4), .ref (aMo 5), .ref (aMo 6), .ref (aMo 7), .ref (aMo 8), .ref (aMo 9), .ref (aMo 10), .ref (aMo 11), .ref (aMo 12), .ref (aMo 13), .ref (aMo 14), .ref (aMo 15), .ref (aMo 16), .int (zI mo_size), .int (zI mo_runs), .ref (aMo 19), .ref (aMo 20), .ref (aMo 21), .int (zI mo_found), .int (zI mo_counted), .int (zI mo_isParted), .ref (aMo 25), .ref (aMo 26), .ref (aMo 27), .ref (aMo 28), .ref (aMo 29), .int (zI mo_maybes), .int (zI mo_days), .int (zI mo_over2), .int (zI mo_longer), .ref (aMo 34)])), ((aMo 3), .inl (ca 0, 11, .inl (zA mo_rules))), ((aMo 15), .inl (ca 0, 60, .inl (zA mo_runFrom))), ((aMo 16), .inl (ca 0, 60, .inl (zA mo_runTo))), ((aMo 25), .inl (ca 0, 12, .inl (zA mo_maybe))), ((aMo 26), .inl (ca 0, 62, .inl (zA (zU mo_dayFrom mo_days.toNat v2)))), ((aMo 27), .inl (ca 0, 62, .inl (zA mo_dayTo))), ((aMo 28), .inl (ca 0, 62, .inl (zA mo_dayRun)))]) 5 rfl rfl (Nat.le_of_ble_eq_true rfl) rfl dX11_parts_53 hf (fun hf => ?_)
        refine g_aload_n (pc := 54) C 0 dX11_parts_54 rfl rfl ?_
        refine g_get (pc := 55) C zf_X11_71 0 rfl rfl dX11_parts_55 ?_
        refine g_aload_n (pc := 58) C 0 dX11_parts_58 rfl rfl ?_
        refine g_get (pc := 59) C zf_X11_154 0 rfl rfl dX11_parts_59 ?_
        refine g_aload_n (pc := 62) C 0 dX11_parts_62 rfl rfl ?_
        refine g_get (pc := 63) C zf_X11_53 0 rfl rfl dX11_parts_63 ?_
        refine g_iload_n (pc := 66) C 3 dX11_parts_66 rfl rfl ?_
        refine g_iald (pc := 67) C (N := 60) 3 rfl rfl (Nat.le_of_ble_eq_true rfl) dX11_parts_67 hf (fun hf => ?_)
        refine g_iast (pc := 68) C (N := 62) (ws' := [((aMo 0), .inr (11, [.ref (aMo 1), .int (zI mo_taped), .ref (aMo 3), .ref (aMo 4), .ref (aMo 5), .ref (aMo 6), .ref (aMo 7), .ref (aMo 8), .ref (aMo 9), .ref (aMo 10), .ref (aMo 11), .ref (aMo 12), .ref (aMo 13), .ref (aMo 14), .ref (aMo 15), .ref (aMo 16), .int (zI mo_size), .int (zI mo_runs), .ref (aMo 19), .ref (aMo 20), .ref (aMo 21), .int (zI mo_found), .int (zI mo_counted), .int (zI mo_isParted), .ref (aMo 25), .ref (aMo 26), .ref (aMo 27), .ref (aMo 28), .ref (aMo 29), .int (zI mo_maybes), .int (zI mo_days), .int (zI mo_over2), .int (zI mo_longer), .ref (aMo 34)])), ((aMo 3), .inl (ca 0, 11, .inl (zA mo_rules))), ((aMo 15), .inl (ca 0, 60, .inl (zA mo_runFrom))), ((aMo 16), .inl (ca 0, 60, .inl (zA mo_runTo))), ((aMo 25), .inl (ca 0, 12, .inl (zA mo_maybe))), ((aMo 26), .inl (ca 0, 62, .inl (zA (zU mo_dayFrom mo_days.toNat v2)))), ((aMo 27), .inl (ca 0, 62, .inl (zA (zU mo_dayTo mo_days.toNat (mo_runTo v3.toNat))))), ((aMo 28), .inl (ca 0, 62, .inl (zA mo_dayRun)))]) 6 rfl rfl (Nat.le_of_ble_eq_true rfl) rfl dX11_parts_68 hf (fun hf => ?_)
        refine g_aload_n (pc := 69) C 0 dX11_parts_69 rfl rfl ?_
        refine g_get (pc := 70) C zf_X11_74 0 rfl rfl dX11_parts_70 ?_
        refine g_aload_n (pc := 73) C 0 dX11_parts_73 rfl rfl ?_
        refine g_get (pc := 74) C zf_X11_154 0 rfl rfl dX11_parts_74 ?_
        refine g_iload_n (pc := 77) C 3 dX11_parts_77 rfl rfl ?_
        refine g_iast (pc := 78) C (N := 62) (ws' := [((aMo 0), .inr (11, [.ref (aMo 1), .int (zI mo_taped), .ref (aMo 3), .ref (aMo 4), .ref (aMo 5), .ref (aMo 6), .ref (aMo 7), .ref (aMo 8), .ref (aMo 9), .ref (aMo 10), .ref (aMo 11), .ref (aMo 12), .ref (aMo 13), .ref (aMo 14), .ref (aMo 15), .ref (aMo 16), .int (zI mo_size), .int (zI mo_runs), .ref (aMo 19), .ref (aMo 20), .ref (aMo 21), .int (zI mo_found), .int (zI mo_counted), .int (zI mo_isParted), .ref (aMo 25), .ref (aMo 26), .ref (aMo 27), .ref (aMo 28), .ref (aMo 29), .int (zI mo_maybes), .int (zI mo_days), .int (zI mo_over2), .int (zI mo_longer), .ref (aMo 34)])), ((aMo 3), .inl (ca 0, 11, .inl (zA mo_rules))), ((aMo 15), .inl (ca 0, 60, .inl (zA mo_runFrom))), ((aMo 16), .inl (ca 0, 60, .inl (zA mo_runTo))), ((aMo 25), .inl (ca 0, 12, .inl (zA mo_maybe))), ((aMo 26), .inl (ca 0, 62, .inl (zA (zU mo_dayFrom mo_days.toNat v2)))), ((aMo 27), .inl (ca 0, 62, .inl (zA (zU mo_dayTo mo_days.toNat (mo_runTo v3.toNat))))), ((aMo 28), .inl (ca 0, 62, .inl (zA (zU mo_dayRun mo_days.toNat v3))))]) 7 rfl rfl (Nat.le_of_ble_eq_true rfl) rfl dX11_parts_78 hf (fun hf => ?_)
        refine g_aload_n (pc := 79) C 0 dX11_parts_79 rfl rfl ?_
        refine g_aload_n (pc := 80) C 0 dX11_parts_80 rfl rfl ?_
        refine g_get (pc := 81) C zf_X11_154 0 rfl rfl dX11_parts_81 ?_
        refine g_iconst (pc := 84) C dX11_parts_84 ?_
        refine g_iadd (pc := 85) C dX11_parts_85 ?_
        refine g_put (pc := 86) C zf_X11_154 tyX11 tyX11_ok nmX11 (v := .int (zI (mo_days + 1))) (ws' := [((aMo 0), .inr (11, [.ref (aMo 1), .int (zI mo_taped), .ref (aMo 3), .ref (aMo 4), .ref (aMo 5), .ref (aMo 6), .ref (aMo 7), .ref (aMo 8), .ref (aMo 9), .ref (aMo 10), .ref (aMo 11), .ref (aMo 12), .ref (aMo 13), .ref (aMo 14), .ref (aMo 15), .ref (aMo 16), .int (zI mo_size), .int (zI mo_runs), .ref (aMo 19), .ref (aMo 20), .ref (aMo 21), .int (zI mo_found), .int (zI mo_counted), .int (zI mo_isParted), .ref (aMo 25), .ref (aMo 26), .ref (aMo 27), .ref (aMo 28), .ref (aMo 29), .int (zI mo_maybes), .int (zI (mo_days + 1)), .int (zI mo_over2), .int (zI mo_longer), .ref (aMo 34)])), ((aMo 3), .inl (ca 0, 11, .inl (zA mo_rules))), ((aMo 15), .inl (ca 0, 60, .inl (zA mo_runFrom))), ((aMo 16), .inl (ca 0, 60, .inl (zA mo_runTo))), ((aMo 25), .inl (ca 0, 12, .inl (zA mo_maybe))), ((aMo 26), .inl (ca 0, 62, .inl (zA (zU mo_dayFrom mo_days.toNat v2)))), ((aMo 27), .inl (ca 0, 62, .inl (zA (zU mo_dayTo mo_days.toNat (mo_runTo v3.toNat))))), ((aMo 28), .inl (ca 0, 62, .inl (zA (zU mo_dayRun mo_days.toNat v3))))]) 0 rfl rfl rfl rfl rfl (Nat.le_of_ble_eq_true rfl) rfl rfl dX11_parts_86 ?_
        refine g_aload_n (pc := 89) C 0 dX11_parts_89 rfl rfl ?_
        refine g_get (pc := 90) C zf_X11_53 0 rfl rfl dX11_parts_90 ?_
        refine g_iload_n (pc := 93) C 3 dX11_parts_93 rfl rfl ?_
        refine g_iald (pc := 94) C (N := 60) 3 rfl rfl (Nat.le_of_ble_eq_true rfl) dX11_parts_94 hf (fun hf => ?_)
        refine g_istore_n (pc := 95) C (lv' := [(2, .int (zI (mo_runTo v3.toNat))), (0, .ref (aMo 0)), (1, .int (zI v1)), (3, .int (zI v3))]) dX11_parts_95 rfl (Nat.le_of_ble_eq_true rfl) rfl ?_
        refine g_sub [0, 1, 2, 3, 4, 5, 6, 7] [1, 2, 0, 3] (by decide) rfl rfl rfl ?_
        exact H96 _ _ _ _ _ _ hf
      intro v2 v3 mo_dayFrom mo_dayTo mo_dayRun mo_days hf
      rw [zlp_s] at hf
      unfold fX11_parts_9 at hf
      dsimp only at hf
      refine g_iload_n (pc := 9) C 3 dX11_parts_9 rfl rfl ?_
      refine g_aload_n (pc := 10) C 0 dX11_parts_10 rfl rfl ?_
      refine g_get (pc := 11) C zf_X11_128 0 rfl rfl dX11_parts_11 ?_
      refine g_icmp_ge (pc := 14) C (tgt := 102) dX11_parts_14 (by decide) hf (fun hf => ?_) (fun hf => ?_)
      · refine g_iload_n (pc := 102) C 2 dX11_parts_102 rfl rfl ?_
        refine g_aload_n (pc := 103) C 0 dX11_parts_103 rfl rfl ?_
        refine g_get (pc := 104) C zf_X11_121 0 rfl rfl dX11_parts_104 ?_
        refine g_icmp_ne (pc := 107) C (tgt := 111) dX11_parts_107 (by decide) hf (fun hf => ?_) (fun hf => ?_)
        · refine g_aload_n (pc := 111) C 0 dX11_parts_111 rfl rfl ?_
          refine g_get (pc := 112) C zf_X11_68 0 rfl rfl dX11_parts_112 ?_
          refine g_aload_n (pc := 115) C 0 dX11_parts_115 rfl rfl ?_
          refine g_get (pc := 116) C zf_X11_154 0 rfl rfl dX11_parts_116 ?_
          refine g_iload_n (pc := 119) C 2 dX11_parts_119 rfl rfl ?_
          refine g_iast (pc := 120) C (N := 62) (ws' := [((aMo 0), .inr (11, [.ref (aMo 1), .int (zI mo_taped), .ref (aMo 3), .ref (aMo 4), .ref (aMo 5), .ref (aMo 6), .ref (aMo 7), .ref (aMo 8), .ref (aMo 9), .ref (aMo 10), .ref (aMo 11), .ref (aMo 12), .ref (aMo 13), .ref (aMo 14), .ref (aMo 15), .ref (aMo 16), .int (zI mo_size), .int (zI mo_runs), .ref (aMo 19), .ref (aMo 20), .ref (aMo 21), .int (zI mo_found), .int (zI mo_counted), .int (zI mo_isParted), .ref (aMo 25), .ref (aMo 26), .ref (aMo 27), .ref (aMo 28), .ref (aMo 29), .int (zI mo_maybes), .int (zI mo_days), .int (zI mo_over2), .int (zI mo_longer), .ref (aMo 34)])), ((aMo 3), .inl (ca 0, 11, .inl (zA mo_rules))), ((aMo 15), .inl (ca 0, 60, .inl (zA mo_runFrom))), ((aMo 16), .inl (ca 0, 60, .inl (zA mo_runTo))), ((aMo 25), .inl (ca 0, 12, .inl (zA mo_maybe))), ((aMo 26), .inl (ca 0, 62, .inl (zA (zU mo_dayFrom mo_days.toNat v2)))), ((aMo 27), .inl (ca 0, 62, .inl (zA mo_dayTo))), ((aMo 28), .inl (ca 0, 62, .inl (zA mo_dayRun)))]) 5 rfl rfl (Nat.le_of_ble_eq_true rfl) rfl dX11_parts_120 hf (fun hf => ?_)
          refine g_aload_n (pc := 121) C 0 dX11_parts_121 rfl rfl ?_
          refine g_get (pc := 122) C zf_X11_71 0 rfl rfl dX11_parts_122 ?_
          refine g_aload_n (pc := 125) C 0 dX11_parts_125 rfl rfl ?_
          refine g_get (pc := 126) C zf_X11_154 0 rfl rfl dX11_parts_126 ?_
          refine g_aload_n (pc := 129) C 0 dX11_parts_129 rfl rfl ?_
          refine g_get (pc := 130) C zf_X11_121 0 rfl rfl dX11_parts_130 ?_
          refine g_iast (pc := 133) C (N := 62) (ws' := [((aMo 0), .inr (11, [.ref (aMo 1), .int (zI mo_taped), .ref (aMo 3), .ref (aMo 4), .ref (aMo 5), .ref (aMo 6), .ref (aMo 7), .ref (aMo 8), .ref (aMo 9), .ref (aMo 10), .ref (aMo 11), .ref (aMo 12), .ref (aMo 13), .ref (aMo 14), .ref (aMo 15), .ref (aMo 16), .int (zI mo_size), .int (zI mo_runs), .ref (aMo 19), .ref (aMo 20), .ref (aMo 21), .int (zI mo_found), .int (zI mo_counted), .int (zI mo_isParted), .ref (aMo 25), .ref (aMo 26), .ref (aMo 27), .ref (aMo 28), .ref (aMo 29), .int (zI mo_maybes), .int (zI mo_days), .int (zI mo_over2), .int (zI mo_longer), .ref (aMo 34)])), ((aMo 3), .inl (ca 0, 11, .inl (zA mo_rules))), ((aMo 15), .inl (ca 0, 60, .inl (zA mo_runFrom))), ((aMo 16), .inl (ca 0, 60, .inl (zA mo_runTo))), ((aMo 25), .inl (ca 0, 12, .inl (zA mo_maybe))), ((aMo 26), .inl (ca 0, 62, .inl (zA (zU mo_dayFrom mo_days.toNat v2)))), ((aMo 27), .inl (ca 0, 62, .inl (zA (zU mo_dayTo mo_days.toNat mo_size)))), ((aMo 28), .inl (ca 0, 62, .inl (zA mo_dayRun)))]) 6 rfl rfl (Nat.le_of_ble_eq_true rfl) rfl dX11_parts_133 hf (fun hf => ?_)
          refine g_aload_n (pc := 134) C 0 dX11_parts_134 rfl rfl ?_
          refine g_get (pc := 135) C zf_X11_74 0 rfl rfl dX11_parts_135 ?_
          refine g_aload_n (pc := 138) C 0 dX11_parts_138 rfl rfl ?_
          refine g_get (pc := 139) C zf_X11_154 0 rfl rfl dX11_parts_139 ?_
          refine g_iconst (pc := 142) C dX11_parts_142 ?_
          refine g_iast (pc := 143) C (N := 62) (ws' := [((aMo 0), .inr (11, [.ref (aMo 1), .int (zI mo_taped), .ref (aMo 3), .ref (aMo 4), .ref (aMo 5), .ref (aMo 6), .ref (aMo 7), .ref (aMo 8), .ref (aMo 9), .ref (aMo 10), .ref (aMo 11), .ref (aMo 12), .ref (aMo 13), .ref (aMo 14), .ref (aMo 15), .ref (aMo 16), .int (zI mo_size), .int (zI mo_runs), .ref (aMo 19), .ref (aMo 20), .ref (aMo 21), .int (zI mo_found), .int (zI mo_counted), .int (zI mo_isParted), .ref (aMo 25), .ref (aMo 26), .ref (aMo 27), .ref (aMo 28), .ref (aMo 29), .int (zI mo_maybes), .int (zI mo_days), .int (zI mo_over2), .int (zI mo_longer), .ref (aMo 34)])), ((aMo 3), .inl (ca 0, 11, .inl (zA mo_rules))), ((aMo 15), .inl (ca 0, 60, .inl (zA mo_runFrom))), ((aMo 16), .inl (ca 0, 60, .inl (zA mo_runTo))), ((aMo 25), .inl (ca 0, 12, .inl (zA mo_maybe))), ((aMo 26), .inl (ca 0, 62, .inl (zA (zU mo_dayFrom mo_days.toNat v2)))), ((aMo 27), .inl (ca 0, 62, .inl (zA (zU mo_dayTo mo_days.toNat mo_size)))), ((aMo 28), .inl (ca 0, 62, .inl (zA (zU mo_dayRun mo_days.toNat (-1)))))]) 7 rfl rfl (Nat.le_of_ble_eq_true rfl) rfl dX11_parts_143 hf (fun hf => ?_)
          refine g_aload_n (pc := 144) C 0 dX11_parts_144 rfl rfl ?_
          refine g_aload_n (pc := 145) C 0 dX11_parts_145 rfl rfl ?_
          refine g_get (pc := 146) C zf_X11_154 0 rfl rfl dX11_parts_146 ?_
          refine g_iconst (pc := 149) C dX11_parts_149 ?_
          refine g_iadd (pc := 150) C dX11_parts_150 ?_
          refine g_put (pc := 151) C zf_X11_154 tyX11 tyX11_ok nmX11 (v := .int (zI (mo_days + 1))) (ws' := [((aMo 0), .inr (11, [.ref (aMo 1), .int (zI mo_taped), .ref (aMo 3), .ref (aMo 4), .ref (aMo 5), .ref (aMo 6), .ref (aMo 7), .ref (aMo 8), .ref (aMo 9), .ref (aMo 10), .ref (aMo 11), .ref (aMo 12), .ref (aMo 13), .ref (aMo 14), .ref (aMo 15), .ref (aMo 16), .int (zI mo_size), .int (zI mo_runs), .ref (aMo 19), .ref (aMo 20), .ref (aMo 21), .int (zI mo_found), .int (zI mo_counted), .int (zI mo_isParted), .ref (aMo 25), .ref (aMo 26), .ref (aMo 27), .ref (aMo 28), .ref (aMo 29), .int (zI mo_maybes), .int (zI (mo_days + 1)), .int (zI mo_over2), .int (zI mo_longer), .ref (aMo 34)])), ((aMo 3), .inl (ca 0, 11, .inl (zA mo_rules))), ((aMo 15), .inl (ca 0, 60, .inl (zA mo_runFrom))), ((aMo 16), .inl (ca 0, 60, .inl (zA mo_runTo))), ((aMo 25), .inl (ca 0, 12, .inl (zA mo_maybe))), ((aMo 26), .inl (ca 0, 62, .inl (zA (zU mo_dayFrom mo_days.toNat v2)))), ((aMo 27), .inl (ca 0, 62, .inl (zA (zU mo_dayTo mo_days.toNat mo_size)))), ((aMo 28), .inl (ca 0, 62, .inl (zA (zU mo_dayRun mo_days.toNat (-1)))))]) 0 rfl rfl rfl rfl rfl (Nat.le_of_ble_eq_true rfl) rfl rfl dX11_parts_151 ?_
          cases hf
          exact g_vret (pc := 154) C E (fun _ => 0) [0, 1, 2, 3, 4, 5, 6, 7] (by decide) rfl rfl (Nat.le_refl _) (Nat.le_refl _) dX11_parts_154
        · cases hf
          exact g_vret (pc := 110) C E (fun _ => 0) [0, 1, 2, 3, 4, 5, 6, 7] (by decide) rfl rfl (Nat.le_refl _) (Nat.le_refl _) dX11_parts_110
      · refine g_aload_n (pc := 17) C 0 dX11_parts_17 rfl rfl ?_
        refine g_iload_n (pc := 18) C 3 dX11_parts_18 rfl rfl ?_
        obtain ⟨r_19, hc_19, hf⟩ := Option.bind_eq_some_iff.mp hf
        refine g_callV (pc := 19) C hl0 (wr := [((aMo 3), .inl (ca 0, 11, .inl (zA mo_rules))), ((aMo 25), .inl (ca 0, 12, .inl (zA mo_maybe))), ((aMo 26), .inl (ca 0, 62, .inl (zA mo_dayFrom))), ((aMo 27), .inl (ca 0, 62, .inl (zA mo_dayTo))), ((aMo 28), .inl (ca 0, 62, .inl (zA mo_dayRun)))]) (k' := 0) (n' := 0) (ws' := fun _ => [((aMo 3), .inl (ca 0, 11, .inl (zA mo_rules))), ((aMo 25), .inl (ca 0, 12, .inl (zA mo_maybe))), ((aMo 26), .inl (ca 0, 62, .inl (zA mo_dayFrom))), ((aMo 27), .inl (ca 0, 62, .inl (zA mo_dayTo))), ((aMo 28), .inl (ca 0, 62, .inl (zA mo_dayRun))), ((aMo 0), .inr (11, [.ref (aMo 1), .int (zI mo_taped), .ref (aMo 3), .ref (aMo 4), .ref (aMo 5), .ref (aMo 6), .ref (aMo 7), .ref (aMo 8), .ref (aMo 9), .ref (aMo 10), .ref (aMo 11), .ref (aMo 12), .ref (aMo 13), .ref (aMo 14), .ref (aMo 15), .ref (aMo 16), .int (zI mo_size), .int (zI mo_runs), .ref (aMo 19), .ref (aMo 20), .ref (aMo 21), .int (zI mo_found), .int (zI mo_counted), .int (zI mo_isParted), .ref (aMo 25), .ref (aMo 26), .ref (aMo 27), .ref (aMo 28), .ref (aMo 29), .int (zI mo_maybes), .int (zI mo_days), .int (zI mo_over2), .int (zI mo_longer), .ref (aMo 34)])), ((aMo 15), .inl (ca 0, 60, .inl (zA mo_runFrom))), ((aMo 16), .inl (ca 0, 60, .inl (zA mo_runTo)))]) (st' := [.int (zI r_19)]) (kX11_runLength l D ca aMo mo_taped mo_runFrom mo_runTo mo_size mo_runs mo_found mo_counted mo_isParted mo_maybes mo_days mo_over2 mo_longer v3 r_19 hc_19) wml_RX11_141 wim_X11_runLength wse_X11_runLength win_RX11 wco_X11_runLength (nA := 1) rfl (by decide +kernel)  ⟨(Nat.le_of_ble_eq_true rfl), (Nat.le_of_ble_eq_true rfl)⟩ (Nat.le_refl _) (Nat.le_refl _) rfl (by decide) dX11_parts_19 0 11 rfl rfl rfl [0, 2, 3] [1, 4, 5, 6, 7] rfl rfl rfl (by decide) (by decide) (by decide) rfl rfl (fun _ => rfl) rfl (fun _ => ?_)
        refine g_aload_n (pc := 22) C 0 dX11_parts_22 rfl rfl ?_
        refine g_get (pc := 23) C zf_X11_13 5 rfl rfl dX11_parts_23 ?_
        refine g_bipush (pc := 26) C dX11_parts_26 (by decide) ?_
        refine g_ialdK (pc := 28) C 7 0 rfl rfl (Nat.le_of_ble_eq_true rfl) (Nat.le_of_ble_eq_true rfl) dX11_parts_28 ?_
        refine g_icmp_ge (pc := 29) C (tgt := 44) dX11_parts_29 (by decide) hf (fun hf => ?_) (fun hf => ?_)
        · refine g_sub [5, 0, 6, 7, 1, 2, 3, 4] [0, 1, 2, 3] (by decide) rfl rfl rfl ?_
          exact H44 _ _ _ _ _ _ hf
        · refine g_aload_n (pc := 32) C 0 dX11_parts_32 rfl rfl ?_
          refine g_iload_n (pc := 33) C 3 dX11_parts_33 rfl rfl ?_
          refine g_iload_n (pc := 34) C 1 dX11_parts_34 rfl rfl ?_
          obtain ⟨r_35, hc_35, hf⟩ := Option.bind_eq_some_iff.mp hf
          refine g_callV (pc := 35) C hl0 (wr := [((aMo 3), .inl (ca 0, 11, .inl (zA mo_rules))), ((aMo 26), .inl (ca 0, 62, .inl (zA mo_dayFrom))), ((aMo 27), .inl (ca 0, 62, .inl (zA mo_dayTo))), ((aMo 28), .inl (ca 0, 62, .inl (zA mo_dayRun))), ((aMo 15), .inl (ca 0, 60, .inl (zA mo_runFrom))), ((aMo 16), .inl (ca 0, 60, .inl (zA mo_runTo)))]) (k' := 0) (n' := 0) (ws' := fun _ => [((aMo 3), .inl (ca 0, 11, .inl (zA mo_rules))), ((aMo 26), .inl (ca 0, 62, .inl (zA mo_dayFrom))), ((aMo 27), .inl (ca 0, 62, .inl (zA mo_dayTo))), ((aMo 28), .inl (ca 0, 62, .inl (zA mo_dayRun))), ((aMo 15), .inl (ca 0, 60, .inl (zA mo_runFrom))), ((aMo 16), .inl (ca 0, 60, .inl (zA mo_runTo))), ((aMo 0), .inr (11, [.ref (aMo 1), .int (zI mo_taped), .ref (aMo 3), .ref (aMo 4), .ref (aMo 5), .ref (aMo 6), .ref (aMo 7), .ref (aMo 8), .ref (aMo 9), .ref (aMo 10), .ref (aMo 11), .ref (aMo 12), .ref (aMo 13), .ref (aMo 14), .ref (aMo 15), .ref (aMo 16), .int (zI mo_size), .int (zI mo_runs), .ref (aMo 19), .ref (aMo 20), .ref (aMo 21), .int (zI mo_found), .int (zI mo_counted), .int (zI mo_isParted), .ref (aMo 25), .ref (aMo 26), .ref (aMo 27), .ref (aMo 28), .ref (aMo 29), .int (zI mo_maybes), .int (zI mo_days), .int (zI mo_over2), .int (zI mo_longer), .ref (aMo 34)])), ((aMo 25), .inl (ca 0, 12, .inl (zA mo_maybe)))]) (st' := [.int (zI r_35)]) (kX11_isTaken l D ca aMo mo_taped mo_size mo_runs mo_found mo_counted mo_isParted mo_maybe mo_maybes mo_days mo_over2 mo_longer v3 v1 r_35 hc_35) wml_RX11_157 wim_X11_isTaken wse_X11_isTaken win_RX11 wco_X11_isTaken (nA := 2) rfl (by decide +kernel)  ⟨(Nat.le_of_ble_eq_true rfl), (Nat.le_of_ble_eq_true rfl)⟩ (Nat.le_refl _) (Nat.le_refl _) rfl (by decide) dX11_parts_35 5 11 rfl rfl rfl [5, 1] [0, 2, 3, 4, 6, 7] rfl rfl rfl (by decide) (by decide) (by decide) rfl rfl (fun _ => rfl) rfl (fun _ => ?_)
          refine g_if_ne (pc := 38) C (tgt := 44) dX11_parts_38 (by decide) hf (fun hf => ?_) (fun hf => ?_)
          · refine g_sub [6, 0, 4, 5, 7, 1, 2, 3] [0, 1, 2, 3] (by decide) rfl rfl rfl ?_
            exact H44 _ _ _ _ _ _ hf
          · refine g_goto (pc := 41) C (tgt := 96) dX11_parts_41 (by decide) ?_
            refine g_sub [6, 0, 4, 5, 7, 1, 2, 3] [0, 1, 2, 3] (by decide) rfl rfl rfl ?_
            exact H96 _ _ _ _ _ _ hf
  unfold fX11_parts at hf
  refine g_aload_n (pc := 0) C 0 dX11_parts_0 rfl rfl ?_
  refine g_iconst (pc := 1) C dX11_parts_1 ?_
  refine g_put (pc := 2) C zf_X11_154 tyX11 tyX11_ok nmX11 (v := .int (zI 0)) (ws' := [((aMo 0), .inr (11, [.ref (aMo 1), .int (zI mo_taped), .ref (aMo 3), .ref (aMo 4), .ref (aMo 5), .ref (aMo 6), .ref (aMo 7), .ref (aMo 8), .ref (aMo 9), .ref (aMo 10), .ref (aMo 11), .ref (aMo 12), .ref (aMo 13), .ref (aMo 14), .ref (aMo 15), .ref (aMo 16), .int (zI mo_size), .int (zI mo_runs), .ref (aMo 19), .ref (aMo 20), .ref (aMo 21), .int (zI mo_found), .int (zI mo_counted), .int (zI mo_isParted), .ref (aMo 25), .ref (aMo 26), .ref (aMo 27), .ref (aMo 28), .ref (aMo 29), .int (zI mo_maybes), .int (zI 0), .int (zI mo_over2), .int (zI mo_longer), .ref (aMo 34)])), ((aMo 3), .inl (ca 0, 11, .inl (zA mo_rules))), ((aMo 15), .inl (ca 0, 60, .inl (zA mo_runFrom))), ((aMo 16), .inl (ca 0, 60, .inl (zA mo_runTo))), ((aMo 25), .inl (ca 0, 12, .inl (zA mo_maybe))), ((aMo 26), .inl (ca 0, 62, .inl (zA mo_dayFrom))), ((aMo 27), .inl (ca 0, 62, .inl (zA mo_dayTo))), ((aMo 28), .inl (ca 0, 62, .inl (zA mo_dayRun)))]) 0 rfl rfl rfl rfl rfl (Nat.le_of_ble_eq_true rfl) rfl rfl dX11_parts_2 ?_
  refine g_iconst (pc := 5) C dX11_parts_5 ?_
  refine g_istore_n (pc := 6) C (lv' := [(2, .int (zI 0)), (0, .ref (aMo 0)), (1, .int (zI v1))]) dX11_parts_6 rfl (Nat.le_of_ble_eq_true rfl) rfl ?_
  refine g_iconst (pc := 7) C dX11_parts_7 ?_
  refine g_istore_n (pc := 8) C (lv' := [(3, .int (zI 0)), (2, .int (zI 0)), (0, .ref (aMo 0)), (1, .int (zI v1))]) dX11_parts_8 rfl (Nat.le_of_ble_eq_true rfl) rfl ?_
  refine g_sub [0, 1, 2, 3, 4, 5, 6, 7] [2, 3, 1, 0] (by decide) rfl rfl rfl ?_
  exact H9 _ _ _ _ _ _ _ hf
set_option maxRecDepth 100000 in
theorem kX11_driveIn (l : Launch) (D : va_G) (ca : Nat → ClassId) (aMo : Nat → Nat) (mo_taped : Int) (mo_driven : Nat → Int) (mo_size : Int) (mo_runs : Int) (mo_found : Int) (mo_counted : Int) (mo_isParted : Int) (mo_maybes : Int) (mo_days : Int) (mo_over2 : Int) (mo_longer : Int) (v1 : Int) (v2 : Int) (r_o : Int)
    (hf : fX11_driveIn v1 v2 mo_driven = some r_o) : Zc l D ca yX11_driveIn cX11_driveIn 3 (some .int) { frames := 0, cells := 0, slots := 0, locals := 0 } [.ref (aMo 0), .int (zI v1), .int (zI v2)] [((aMo 0), .inr (11, [.ref (aMo 1), .int (zI mo_taped), .ref (aMo 3), .ref (aMo 4), .ref (aMo 5), .ref (aMo 6), .ref (aMo 7), .ref (aMo 8), .ref (aMo 9), .ref (aMo 10), .ref (aMo 11), .ref (aMo 12), .ref (aMo 13), .ref (aMo 14), .ref (aMo 15), .ref (aMo 16), .int (zI mo_size), .int (zI mo_runs), .ref (aMo 19), .ref (aMo 20), .ref (aMo 21), .int (zI mo_found), .int (zI mo_counted), .int (zI mo_isParted), .ref (aMo 25), .ref (aMo 26), .ref (aMo 27), .ref (aMo 28), .ref (aMo 29), .int (zI mo_maybes), .int (zI mo_days), .int (zI mo_over2), .int (zI mo_longer), .ref (aMo 34)])), ((aMo 14), .inl (ca 0, 20161, .inl (zA mo_driven)))] (some (.int (zI r_o))) (fun _ => [((aMo 0), .inr (11, [.ref (aMo 1), .int (zI mo_taped), .ref (aMo 3), .ref (aMo 4), .ref (aMo 5), .ref (aMo 6), .ref (aMo 7), .ref (aMo 8), .ref (aMo 9), .ref (aMo 10), .ref (aMo 11), .ref (aMo 12), .ref (aMo 13), .ref (aMo 14), .ref (aMo 15), .ref (aMo 16), .int (zI mo_size), .int (zI mo_runs), .ref (aMo 19), .ref (aMo 20), .ref (aMo 21), .int (zI mo_found), .int (zI mo_counted), .int (zI mo_isParted), .ref (aMo 25), .ref (aMo 26), .ref (aMo 27), .ref (aMo 28), .ref (aMo 29), .int (zI mo_maybes), .int (zI mo_days), .int (zI mo_over2), .int (zI mo_longer), .ref (aMo 34)])), ((aMo 14), .inl (ca 0, 20161, .inl (zA mo_driven)))]) := by
  refine ctr_of (lv := [(0, .ref (aMo 0)), (1, .int (zI v1)), (2, .int (zI v2))]) (by decide +kernel) (Nat.le_of_ble_eq_true rfl) rfl (fun Γ hl0 C E hnm => ?_)
  unfold fX11_driveIn at hf
  refine g_aload_n (pc := 0) C 0 dX11_driveIn_0 rfl rfl ?_
  refine g_get (pc := 1) C zf_X11_47 0 rfl rfl dX11_driveIn_1 ?_
  refine g_iload_n (pc := 4) C 2 dX11_driveIn_4 rfl rfl ?_
  refine g_iald (pc := 5) C (N := 20161) 1 rfl rfl (Nat.le_of_ble_eq_true rfl) dX11_driveIn_5 hf (fun hf => ?_)
  refine g_aload_n (pc := 6) C 0 dX11_driveIn_6 rfl rfl ?_
  refine g_get (pc := 7) C zf_X11_47 0 rfl rfl dX11_driveIn_7 ?_
  refine g_iload_n (pc := 10) C 1 dX11_driveIn_10 rfl rfl ?_
  refine g_iald (pc := 11) C (N := 20161) 1 rfl rfl (Nat.le_of_ble_eq_true rfl) dX11_driveIn_11 hf (fun hf => ?_)
  refine g_isub (pc := 12) C dX11_driveIn_12 ?_
  cases hf
  exact g_iret (pc := 13) C E (fun _ => 0) [0, 1] (by decide) rfl rfl (Nat.le_refl _) (Nat.le_refl _) dX11_driveIn_13
set_option maxRecDepth 100000 in
theorem kX11_overOf (l : Launch) (D : va_G) (ca : Nat → ClassId) (aMo : Nat → Nat) (mo_taped : Int) (mo_rules : Nat → Int) (mo_driven : Nat → Int) (mo_size : Int) (mo_runs : Int) (mo_found : Int) (mo_counted : Int) (mo_isParted : Int) (mo_dayFrom : Nat → Int) (mo_dayTo : Nat → Int) (mo_maybes : Int) (mo_days : Int) (mo_over2 : Int) (mo_longer : Int) (v1 : Int) (v2 : Int) (r_o : Int)
    (hf : fX11_overOf v1 v2 mo_rules mo_driven mo_dayFrom mo_dayTo = some r_o) : Zc l D ca yX11_overOf cX11_overOf 4 (some .int) { frames := 1, cells := 0, slots := 0, locals := 22 } [.ref (aMo 0), .int (zI v1), .int (zI v2)] [((aMo 0), .inr (11, [.ref (aMo 1), .int (zI mo_taped), .ref (aMo 3), .ref (aMo 4), .ref (aMo 5), .ref (aMo 6), .ref (aMo 7), .ref (aMo 8), .ref (aMo 9), .ref (aMo 10), .ref (aMo 11), .ref (aMo 12), .ref (aMo 13), .ref (aMo 14), .ref (aMo 15), .ref (aMo 16), .int (zI mo_size), .int (zI mo_runs), .ref (aMo 19), .ref (aMo 20), .ref (aMo 21), .int (zI mo_found), .int (zI mo_counted), .int (zI mo_isParted), .ref (aMo 25), .ref (aMo 26), .ref (aMo 27), .ref (aMo 28), .ref (aMo 29), .int (zI mo_maybes), .int (zI mo_days), .int (zI mo_over2), .int (zI mo_longer), .ref (aMo 34)])), ((aMo 3), .inl (ca 0, 11, .inl (zA mo_rules))), ((aMo 14), .inl (ca 0, 20161, .inl (zA mo_driven))), ((aMo 26), .inl (ca 0, 62, .inl (zA mo_dayFrom))), ((aMo 27), .inl (ca 0, 62, .inl (zA mo_dayTo)))] (some (.int (zI r_o))) (fun _ => [((aMo 0), .inr (11, [.ref (aMo 1), .int (zI mo_taped), .ref (aMo 3), .ref (aMo 4), .ref (aMo 5), .ref (aMo 6), .ref (aMo 7), .ref (aMo 8), .ref (aMo 9), .ref (aMo 10), .ref (aMo 11), .ref (aMo 12), .ref (aMo 13), .ref (aMo 14), .ref (aMo 15), .ref (aMo 16), .int (zI mo_size), .int (zI mo_runs), .ref (aMo 19), .ref (aMo 20), .ref (aMo 21), .int (zI mo_found), .int (zI mo_counted), .int (zI mo_isParted), .ref (aMo 25), .ref (aMo 26), .ref (aMo 27), .ref (aMo 28), .ref (aMo 29), .int (zI mo_maybes), .int (zI mo_days), .int (zI mo_over2), .int (zI mo_longer), .ref (aMo 34)])), ((aMo 3), .inl (ca 0, 11, .inl (zA mo_rules))), ((aMo 14), .inl (ca 0, 20161, .inl (zA mo_driven))), ((aMo 26), .inl (ca 0, 62, .inl (zA mo_dayFrom))), ((aMo 27), .inl (ca 0, 62, .inl (zA mo_dayTo)))]) := by
  refine ctr_of (lv := [(0, .ref (aMo 0)), (1, .int (zI v1)), (2, .int (zI v2))]) (by decide +kernel) (Nat.le_of_ble_eq_true rfl) rfl (fun Γ hl0 C E hnm => ?_)
  have H29 : ∀ (s0 : Int) (s2 : Int), fX11_overOf_29 s0 s2 mo_rules = some r_o → Zd D Γ 0 0 [((aMo 0), .inr (11, [.ref (aMo 1), .int (zI mo_taped), .ref (aMo 3), .ref (aMo 4), .ref (aMo 5), .ref (aMo 6), .ref (aMo 7), .ref (aMo 8), .ref (aMo 9), .ref (aMo 10), .ref (aMo 11), .ref (aMo 12), .ref (aMo 13), .ref (aMo 14), .ref (aMo 15), .ref (aMo 16), .int (zI mo_size), .int (zI mo_runs), .ref (aMo 19), .ref (aMo 20), .ref (aMo 21), .int (zI mo_found), .int (zI mo_counted), .int (zI mo_isParted), .ref (aMo 25), .ref (aMo 26), .ref (aMo 27), .ref (aMo 28), .ref (aMo 29), .int (zI mo_maybes), .int (zI mo_days), .int (zI mo_over2), .int (zI mo_longer), .ref (aMo 34)])), ((aMo 3), .inl (ca 0, 11, .inl (zA mo_rules))), ((aMo 14), .inl (ca 0, 20161, .inl (zA mo_driven))), ((aMo 26), .inl (ca 0, 62, .inl (zA mo_dayFrom))), ((aMo 27), .inl (ca 0, 62, .inl (zA mo_dayTo)))] 29 [] [.int (zI s2), .ref (aMo 3), .int (zI s0)] := by
    intro s0 s2 hf
    unfold fX11_overOf_29 at hf
    refine g_iald (pc := 29) C (N := 11) 1 rfl rfl (Nat.le_of_ble_eq_true rfl) dX11_overOf_29 hf (fun hf => ?_)
    refine g_isub (pc := 30) C dX11_overOf_30 ?_
    refine g_istore_n (pc := 31) C (lv' := [(3, .int (zI (s0 - (mo_rules s2.toNat))))]) dX11_overOf_31 rfl (Nat.le_of_ble_eq_true rfl) rfl ?_
    refine g_iload_n (pc := 32) C 0 dX11_overOf_32 rfl rfl ?_
    refine g_if_le (pc := 33) C (tgt := 40) dX11_overOf_33 (by decide) hf (fun hf => ?_) (fun hf => ?_)
    · refine g_iconst (pc := 40) C dX11_overOf_40 ?_
      cases hf
      exact g_iret (pc := 41) C E (fun _ => 0) [0, 1, 2, 3, 4] (by decide) rfl rfl (Nat.le_refl _) (Nat.le_refl _) dX11_overOf_41
    · refine g_iload_n (pc := 36) C 0 dX11_overOf_36 rfl rfl ?_
      refine g_goto (pc := 37) C (tgt := 41) dX11_overOf_37 (by decide) ?_
      cases hf
      exact g_iret (pc := 41) C E (fun _ => 0) [0, 1, 2, 3, 4] (by decide) rfl rfl (Nat.le_refl _) (Nat.le_refl _) dX11_overOf_41
  unfold fX11_overOf at hf
  refine g_aload_n (pc := 0) C 0 dX11_overOf_0 rfl rfl ?_
  refine g_aload_n (pc := 1) C 0 dX11_overOf_1 rfl rfl ?_
  refine g_get (pc := 2) C zf_X11_68 0 rfl rfl dX11_overOf_2 ?_
  refine g_iload_n (pc := 5) C 1 dX11_overOf_5 rfl rfl ?_
  refine g_iald (pc := 6) C (N := 62) 3 rfl rfl (Nat.le_of_ble_eq_true rfl) dX11_overOf_6 hf (fun hf => ?_)
  refine g_aload_n (pc := 7) C 0 dX11_overOf_7 rfl rfl ?_
  refine g_get (pc := 8) C zf_X11_71 0 rfl rfl dX11_overOf_8 ?_
  refine g_iload_n (pc := 11) C 1 dX11_overOf_11 rfl rfl ?_
  refine g_iald (pc := 12) C (N := 62) 4 rfl rfl (Nat.le_of_ble_eq_true rfl) dX11_overOf_12 hf (fun hf => ?_)
  obtain ⟨r_13, hc_13, hf⟩ := Option.bind_eq_some_iff.mp hf
  refine g_callV (pc := 13) C hl0 (wr := [((aMo 3), .inl (ca 0, 11, .inl (zA mo_rules))), ((aMo 26), .inl (ca 0, 62, .inl (zA mo_dayFrom))), ((aMo 27), .inl (ca 0, 62, .inl (zA mo_dayTo)))]) (k' := 0) (n' := 0) (ws' := fun _ => [((aMo 3), .inl (ca 0, 11, .inl (zA mo_rules))), ((aMo 26), .inl (ca 0, 62, .inl (zA mo_dayFrom))), ((aMo 27), .inl (ca 0, 62, .inl (zA mo_dayTo))), ((aMo 0), .inr (11, [.ref (aMo 1), .int (zI mo_taped), .ref (aMo 3), .ref (aMo 4), .ref (aMo 5), .ref (aMo 6), .ref (aMo 7), .ref (aMo 8), .ref (aMo 9), .ref (aMo 10), .ref (aMo 11), .ref (aMo 12), .ref (aMo 13), .ref (aMo 14), .ref (aMo 15), .ref (aMo 16), .int (zI mo_size), .int (zI mo_runs), .ref (aMo 19), .ref (aMo 20), .ref (aMo 21), .int (zI mo_found), .int (zI mo_counted), .int (zI mo_isParted), .ref (aMo 25), .ref (aMo 26), .ref (aMo 27), .ref (aMo 28), .ref (aMo 29), .int (zI mo_maybes), .int (zI mo_days), .int (zI mo_over2), .int (zI mo_longer), .ref (aMo 34)])), ((aMo 14), .inl (ca 0, 20161, .inl (zA mo_driven)))]) (st' := [.int (zI r_13)]) (kX11_driveIn l D ca aMo mo_taped mo_driven mo_size mo_runs mo_found mo_counted mo_isParted mo_maybes mo_days mo_over2 mo_longer (mo_dayFrom v1.toNat) (mo_dayTo v1.toNat) r_13 hc_13) wml_RX11_160 wim_X11_driveIn wse_X11_driveIn win_RX11 wco_X11_driveIn (nA := 2) rfl (by decide +kernel)  ⟨(Nat.le_of_ble_eq_true rfl), (Nat.le_of_ble_eq_true rfl)⟩ (Nat.le_refl _) (Nat.le_refl _) rfl (by decide) dX11_overOf_13 0 11 rfl rfl rfl [0, 2] [1, 3, 4] rfl rfl rfl (by decide) (by decide) (by decide) rfl rfl (fun _ => rfl) rfl (fun _ => ?_)
  refine g_aload_n (pc := 16) C 0 dX11_overOf_16 rfl rfl ?_
  refine g_get (pc := 17) C zf_X11_13 3 rfl rfl dX11_overOf_17 ?_
  refine g_iload_n (pc := 20) C 2 dX11_overOf_20 rfl rfl ?_
  refine g_if_eq (pc := 21) C (tgt := 28) dX11_overOf_21 (by decide) hf (fun hf => ?_) (fun hf => ?_)
  · refine g_iconst (pc := 28) C dX11_overOf_28 ?_
    refine g_sub [3, 0, 4, 1, 2] [] (by decide) rfl rfl rfl ?_
    exact H29 _ _ hf
  · refine g_iconst (pc := 24) C dX11_overOf_24 ?_
    refine g_goto (pc := 25) C (tgt := 29) dX11_overOf_25 (by decide) ?_
    refine g_sub [3, 0, 4, 1, 2] [] (by decide) rfl rfl rfl ?_
    exact H29 _ _ hf
set_option maxRecDepth 100000 in
theorem kX11_extendsDays (l : Launch) (D : va_G) (ca : Nat → ClassId) (aMo : Nat → Nat) (mo_taped : Int) (mo_rules : Nat → Int) (mo_driven : Nat → Int) (mo_size : Int) (mo_runs : Int) (mo_found : Int) (mo_counted : Int) (mo_isParted : Int) (mo_dayFrom : Nat → Int) (mo_dayTo : Nat → Int) (mo_isLonger : Nat → Int) (mo_maybes : Int) (mo_days : Int) (mo_over2 : Int) (mo_longer : Int)  (mo_isLonger_o : Nat → Int) (mo_longer_o : Int)
    (hf : fX11_extendsDays mo_rules mo_driven mo_dayFrom mo_dayTo mo_isLonger mo_days mo_longer = some (mo_isLonger_o, mo_longer_o)) : Zc l D ca yX11_extendsDays cX11_extendsDays 8 none { frames := 2, cells := 0, slots := 0, locals := 45 } [.ref (aMo 0)] [((aMo 0), .inr (11, [.ref (aMo 1), .int (zI mo_taped), .ref (aMo 3), .ref (aMo 4), .ref (aMo 5), .ref (aMo 6), .ref (aMo 7), .ref (aMo 8), .ref (aMo 9), .ref (aMo 10), .ref (aMo 11), .ref (aMo 12), .ref (aMo 13), .ref (aMo 14), .ref (aMo 15), .ref (aMo 16), .int (zI mo_size), .int (zI mo_runs), .ref (aMo 19), .ref (aMo 20), .ref (aMo 21), .int (zI mo_found), .int (zI mo_counted), .int (zI mo_isParted), .ref (aMo 25), .ref (aMo 26), .ref (aMo 27), .ref (aMo 28), .ref (aMo 29), .int (zI mo_maybes), .int (zI mo_days), .int (zI mo_over2), .int (zI mo_longer), .ref (aMo 34)])), ((aMo 3), .inl (ca 0, 11, .inl (zA mo_rules))), ((aMo 14), .inl (ca 0, 20161, .inl (zA mo_driven))), ((aMo 26), .inl (ca 0, 62, .inl (zA mo_dayFrom))), ((aMo 27), .inl (ca 0, 62, .inl (zA mo_dayTo))), ((aMo 29), .inl (ca 3, 62, .inl (zA mo_isLonger)))] none (fun _ => [((aMo 0), .inr (11, [.ref (aMo 1), .int (zI mo_taped), .ref (aMo 3), .ref (aMo 4), .ref (aMo 5), .ref (aMo 6), .ref (aMo 7), .ref (aMo 8), .ref (aMo 9), .ref (aMo 10), .ref (aMo 11), .ref (aMo 12), .ref (aMo 13), .ref (aMo 14), .ref (aMo 15), .ref (aMo 16), .int (zI mo_size), .int (zI mo_runs), .ref (aMo 19), .ref (aMo 20), .ref (aMo 21), .int (zI mo_found), .int (zI mo_counted), .int (zI mo_isParted), .ref (aMo 25), .ref (aMo 26), .ref (aMo 27), .ref (aMo 28), .ref (aMo 29), .int (zI mo_maybes), .int (zI mo_days), .int (zI mo_over2), .int (zI mo_longer_o), .ref (aMo 34)])), ((aMo 3), .inl (ca 0, 11, .inl (zA mo_rules))), ((aMo 14), .inl (ca 0, 20161, .inl (zA mo_driven))), ((aMo 26), .inl (ca 0, 62, .inl (zA mo_dayFrom))), ((aMo 27), .inl (ca 0, 62, .inl (zA mo_dayTo))), ((aMo 29), .inl (ca 3, 62, .inl (zA mo_isLonger_o)))]) := by
  refine ctr_of (lv := [(0, .ref (aMo 0))]) (by decide +kernel) (Nat.le_of_ble_eq_true rfl) rfl (fun Γ hl0 C E hnm => ?_)
  have H30 : ∀  (n30 : Nat) (v1 : Int) (mo_isLonger : Nat → Int) (mo_longer : Int), zlp (fX11_extendsDays_30 mo_rules mo_driven mo_dayFrom mo_dayTo mo_days) n30 (v1, mo_isLonger, mo_longer) = some (mo_isLonger_o, mo_longer_o) → Zd D Γ 0 0 [((aMo 0), .inr (11, [.ref (aMo 1), .int (zI mo_taped), .ref (aMo 3), .ref (aMo 4), .ref (aMo 5), .ref (aMo 6), .ref (aMo 7), .ref (aMo 8), .ref (aMo 9), .ref (aMo 10), .ref (aMo 11), .ref (aMo 12), .ref (aMo 13), .ref (aMo 14), .ref (aMo 15), .ref (aMo 16), .int (zI mo_size), .int (zI mo_runs), .ref (aMo 19), .ref (aMo 20), .ref (aMo 21), .int (zI mo_found), .int (zI mo_counted), .int (zI mo_isParted), .ref (aMo 25), .ref (aMo 26), .ref (aMo 27), .ref (aMo 28), .ref (aMo 29), .int (zI mo_maybes), .int (zI mo_days), .int (zI mo_over2), .int (zI mo_longer), .ref (aMo 34)])), ((aMo 3), .inl (ca 0, 11, .inl (zA mo_rules))), ((aMo 14), .inl (ca 0, 20161, .inl (zA mo_driven))), ((aMo 26), .inl (ca 0, 62, .inl (zA mo_dayFrom))), ((aMo 27), .inl (ca 0, 62, .inl (zA mo_dayTo))), ((aMo 29), .inl (ca 3, 62, .inl (zA mo_isLonger)))] 30 [(0, .ref (aMo 0)), (1, .int (zI v1))] [] := by
    intro n30
    induction n30 with
    | zero =>
      intro v1 mo_isLonger mo_longer hf
      exact zno hf
    | succ n30 ih30 =>
      have H181 : ∀ (v1 : Int) (mo_isLonger : Nat → Int) (mo_longer : Int), fX11_extendsDays_181 (zlp (fX11_extendsDays_30 mo_rules mo_driven mo_dayFrom mo_dayTo mo_days) n30) v1 mo_isLonger mo_longer = some (mo_isLonger_o, mo_longer_o) → Zd D Γ 0 0 [((aMo 0), .inr (11, [.ref (aMo 1), .int (zI mo_taped), .ref (aMo 3), .ref (aMo 4), .ref (aMo 5), .ref (aMo 6), .ref (aMo 7), .ref (aMo 8), .ref (aMo 9), .ref (aMo 10), .ref (aMo 11), .ref (aMo 12), .ref (aMo 13), .ref (aMo 14), .ref (aMo 15), .ref (aMo 16), .int (zI mo_size), .int (zI mo_runs), .ref (aMo 19), .ref (aMo 20), .ref (aMo 21), .int (zI mo_found), .int (zI mo_counted), .int (zI mo_isParted), .ref (aMo 25), .ref (aMo 26), .ref (aMo 27), .ref (aMo 28), .ref (aMo 29), .int (zI mo_maybes), .int (zI mo_days), .int (zI mo_over2), .int (zI mo_longer), .ref (aMo 34)])), ((aMo 3), .inl (ca 0, 11, .inl (zA mo_rules))), ((aMo 14), .inl (ca 0, 20161, .inl (zA mo_driven))), ((aMo 26), .inl (ca 0, 62, .inl (zA mo_dayFrom))), ((aMo 27), .inl (ca 0, 62, .inl (zA mo_dayTo))), ((aMo 29), .inl (ca 3, 62, .inl (zA mo_isLonger)))] 181 [(0, .ref (aMo 0)), (1, .int (zI v1))] [] := by
        intro v1 mo_isLonger mo_longer hf
        unfold fX11_extendsDays_181 at hf
        refine g_iinc (pc := 181) C 1 (lv' := [(1, .int (zI (v1 + 1))), (0, .ref (aMo 0))]) dX11_extendsDays_181 rfl (Nat.le_of_ble_eq_true rfl) rfl ?_
        refine g_goto (pc := 184) C (tgt := 30) dX11_extendsDays_184 (by decide) ?_
        refine g_sub [0, 1, 2, 3, 4, 5] [1, 0] (by decide) rfl rfl rfl ?_
        exact ih30 _ _ _ hf
      have H39 : ∀ (v1 : Int) (n39 : Nat) (v2 : Int) (v3 : Int) (mo_isLonger : Nat → Int) (mo_longer : Int), zlp (fX11_extendsDays_39 (zlp (fX11_extendsDays_30 mo_rules mo_driven mo_dayFrom mo_dayTo mo_days) n30) v1 mo_rules mo_driven mo_dayFrom mo_dayTo mo_days) n39 (v2, v3, mo_isLonger, mo_longer) = some (mo_isLonger_o, mo_longer_o) → Zd D Γ 0 0 [((aMo 0), .inr (11, [.ref (aMo 1), .int (zI mo_taped), .ref (aMo 3), .ref (aMo 4), .ref (aMo 5), .ref (aMo 6), .ref (aMo 7), .ref (aMo 8), .ref (aMo 9), .ref (aMo 10), .ref (aMo 11), .ref (aMo 12), .ref (aMo 13), .ref (aMo 14), .ref (aMo 15), .ref (aMo 16), .int (zI mo_size), .int (zI mo_runs), .ref (aMo 19), .ref (aMo 20), .ref (aMo 21), .int (zI mo_found), .int (zI mo_counted), .int (zI mo_isParted), .ref (aMo 25), .ref (aMo 26), .ref (aMo 27), .ref (aMo 28), .ref (aMo 29), .int (zI mo_maybes), .int (zI mo_days), .int (zI mo_over2), .int (zI mo_longer), .ref (aMo 34)])), ((aMo 3), .inl (ca 0, 11, .inl (zA mo_rules))), ((aMo 14), .inl (ca 0, 20161, .inl (zA mo_driven))), ((aMo 26), .inl (ca 0, 62, .inl (zA mo_dayFrom))), ((aMo 27), .inl (ca 0, 62, .inl (zA mo_dayTo))), ((aMo 29), .inl (ca 3, 62, .inl (zA mo_isLonger)))] 39 [(0, .ref (aMo 0)), (1, .int (zI v1)), (2, .int (zI v2)), (3, .int (zI v3))] [] := by
        intro v1
        intro n39
        induction n39 with
        | zero =>
          intro v2 v3 mo_isLonger mo_longer hf
          exact zno hf
        | succ n39 ih39 =>
          have H175 : ∀ (v1 : Int) (v2 : Int) (v3 : Int) (mo_isLonger : Nat → Int) (mo_longer : Int), fX11_extendsDays_175 (zlp (fX11_extendsDays_39 (zlp (fX11_extendsDays_30 mo_rules mo_driven mo_dayFrom mo_dayTo mo_days) n30) v1 mo_rules mo_driven mo_dayFrom mo_dayTo mo_days) n39) v2 v3 mo_isLonger mo_longer = some (mo_isLonger_o, mo_longer_o) → Zd D Γ 0 0 [((aMo 0), .inr (11, [.ref (aMo 1), .int (zI mo_taped), .ref (aMo 3), .ref (aMo 4), .ref (aMo 5), .ref (aMo 6), .ref (aMo 7), .ref (aMo 8), .ref (aMo 9), .ref (aMo 10), .ref (aMo 11), .ref (aMo 12), .ref (aMo 13), .ref (aMo 14), .ref (aMo 15), .ref (aMo 16), .int (zI mo_size), .int (zI mo_runs), .ref (aMo 19), .ref (aMo 20), .ref (aMo 21), .int (zI mo_found), .int (zI mo_counted), .int (zI mo_isParted), .ref (aMo 25), .ref (aMo 26), .ref (aMo 27), .ref (aMo 28), .ref (aMo 29), .int (zI mo_maybes), .int (zI mo_days), .int (zI mo_over2), .int (zI mo_longer), .ref (aMo 34)])), ((aMo 3), .inl (ca 0, 11, .inl (zA mo_rules))), ((aMo 14), .inl (ca 0, 20161, .inl (zA mo_driven))), ((aMo 26), .inl (ca 0, 62, .inl (zA mo_dayFrom))), ((aMo 27), .inl (ca 0, 62, .inl (zA mo_dayTo))), ((aMo 29), .inl (ca 3, 62, .inl (zA mo_isLonger)))] 175 [(0, .ref (aMo 0)), (1, .int (zI v1)), (2, .int (zI v2)), (3, .int (zI v3))] [] := by
            intro v1 v2 v3 mo_isLonger mo_longer hf
            unfold fX11_extendsDays_175 at hf
            refine g_iinc (pc := 175) C 3 (lv' := [(3, .int (zI (v3 + 1))), (0, .ref (aMo 0)), (1, .int (zI v1)), (2, .int (zI v2))]) dX11_extendsDays_175 rfl (Nat.le_of_ble_eq_true rfl) rfl ?_
            refine g_goto (pc := 178) C (tgt := 39) dX11_extendsDays_178 (by decide) ?_
            refine g_sub [0, 1, 2, 3, 4, 5] [1, 2, 3, 0] (by decide) rfl rfl rfl ?_
            exact ih39 _ _ _ _ hf
          have H149 : ∀ (v1 : Int) (v3 : Int) (v4 : Int) (s0 : Int) (mo_isLonger : Nat → Int) (mo_longer : Int), fX11_extendsDays_149 (zlp (fX11_extendsDays_39 (zlp (fX11_extendsDays_30 mo_rules mo_driven mo_dayFrom mo_dayTo mo_days) n30) v1 mo_rules mo_driven mo_dayFrom mo_dayTo mo_days) n39) v3 v4 s0 mo_isLonger mo_longer = some (mo_isLonger_o, mo_longer_o) → Zd D Γ 0 0 [((aMo 0), .inr (11, [.ref (aMo 1), .int (zI mo_taped), .ref (aMo 3), .ref (aMo 4), .ref (aMo 5), .ref (aMo 6), .ref (aMo 7), .ref (aMo 8), .ref (aMo 9), .ref (aMo 10), .ref (aMo 11), .ref (aMo 12), .ref (aMo 13), .ref (aMo 14), .ref (aMo 15), .ref (aMo 16), .int (zI mo_size), .int (zI mo_runs), .ref (aMo 19), .ref (aMo 20), .ref (aMo 21), .int (zI mo_found), .int (zI mo_counted), .int (zI mo_isParted), .ref (aMo 25), .ref (aMo 26), .ref (aMo 27), .ref (aMo 28), .ref (aMo 29), .int (zI mo_maybes), .int (zI mo_days), .int (zI mo_over2), .int (zI mo_longer), .ref (aMo 34)])), ((aMo 3), .inl (ca 0, 11, .inl (zA mo_rules))), ((aMo 14), .inl (ca 0, 20161, .inl (zA mo_driven))), ((aMo 26), .inl (ca 0, 62, .inl (zA mo_dayFrom))), ((aMo 27), .inl (ca 0, 62, .inl (zA mo_dayTo))), ((aMo 29), .inl (ca 3, 62, .inl (zA mo_isLonger)))] 149 [(0, .ref (aMo 0)), (1, .int (zI v1)), (3, .int (zI v3)), (4, .int (zI v4))] [.int (zI s0)] := by
            intro v1 v3 v4 s0 mo_isLonger mo_longer hf
            unfold fX11_extendsDays_149 at hf
            refine g_istore_n (pc := 149) C (lv' := [(2, .int (zI s0)), (0, .ref (aMo 0)), (1, .int (zI v1)), (3, .int (zI v3)), (4, .int (zI v4))]) dX11_extendsDays_149 rfl (Nat.le_of_ble_eq_true rfl) rfl ?_
            refine g_iload_n (pc := 150) C 0 dX11_extendsDays_150 rfl rfl ?_
            refine g_if_ne (pc := 151) C (tgt := 157) dX11_extendsDays_151 (by decide) hf (fun hf => ?_) (fun hf => ?_)
            · refine g_aload_n (pc := 157) C 1 dX11_extendsDays_157 rfl rfl ?_
              refine g_get (pc := 158) C zf_X11_77 0 rfl rfl dX11_extendsDays_158 ?_
              refine g_iload (pc := 161) C 4 dX11_extendsDays_161 rfl ?_
              refine g_iconst (pc := 163) C dX11_extendsDays_163 ?_
              refine g_zast (pc := 164) C (N := 62) (ws' := [((aMo 0), .inr (11, [.ref (aMo 1), .int (zI mo_taped), .ref (aMo 3), .ref (aMo 4), .ref (aMo 5), .ref (aMo 6), .ref (aMo 7), .ref (aMo 8), .ref (aMo 9), .ref (aMo 10), .ref (aMo 11), .ref (aMo 12), .ref (aMo 13), .ref (aMo 14), .ref (aMo 15), .ref (aMo 16), .int (zI mo_size), .int (zI mo_runs), .ref (aMo 19), .ref (aMo 20), .ref (aMo 21), .int (zI mo_found), .int (zI mo_counted), .int (zI mo_isParted), .ref (aMo 25), .ref (aMo 26), .ref (aMo 27), .ref (aMo 28), .ref (aMo 29), .int (zI mo_maybes), .int (zI mo_days), .int (zI mo_over2), .int (zI mo_longer), .ref (aMo 34)])), ((aMo 3), .inl (ca 0, 11, .inl (zA mo_rules))), ((aMo 14), .inl (ca 0, 20161, .inl (zA mo_driven))), ((aMo 26), .inl (ca 0, 62, .inl (zA mo_dayFrom))), ((aMo 27), .inl (ca 0, 62, .inl (zA mo_dayTo))), ((aMo 29), .inl (ca 3, 62, .inl (zA (zU mo_isLonger v4.toNat 1))))]) 5 rfl rfl (Nat.le_of_ble_eq_true rfl) (by decide) rfl dX11_extendsDays_164 hf (fun hf => ?_)
              refine g_aload_n (pc := 165) C 1 dX11_extendsDays_165 rfl rfl ?_
              refine g_aload_n (pc := 166) C 1 dX11_extendsDays_166 rfl rfl ?_
              refine g_get (pc := 167) C zf_X11_164 0 rfl rfl dX11_extendsDays_167 ?_
              refine g_iconst (pc := 170) C dX11_extendsDays_170 ?_
              refine g_iadd (pc := 171) C dX11_extendsDays_171 ?_
              refine g_put (pc := 172) C zf_X11_164 tyX11 tyX11_ok nmX11 (v := .int (zI (mo_longer + 1))) (ws' := [((aMo 0), .inr (11, [.ref (aMo 1), .int (zI mo_taped), .ref (aMo 3), .ref (aMo 4), .ref (aMo 5), .ref (aMo 6), .ref (aMo 7), .ref (aMo 8), .ref (aMo 9), .ref (aMo 10), .ref (aMo 11), .ref (aMo 12), .ref (aMo 13), .ref (aMo 14), .ref (aMo 15), .ref (aMo 16), .int (zI mo_size), .int (zI mo_runs), .ref (aMo 19), .ref (aMo 20), .ref (aMo 21), .int (zI mo_found), .int (zI mo_counted), .int (zI mo_isParted), .ref (aMo 25), .ref (aMo 26), .ref (aMo 27), .ref (aMo 28), .ref (aMo 29), .int (zI mo_maybes), .int (zI mo_days), .int (zI mo_over2), .int (zI (mo_longer + 1)), .ref (aMo 34)])), ((aMo 3), .inl (ca 0, 11, .inl (zA mo_rules))), ((aMo 14), .inl (ca 0, 20161, .inl (zA mo_driven))), ((aMo 26), .inl (ca 0, 62, .inl (zA mo_dayFrom))), ((aMo 27), .inl (ca 0, 62, .inl (zA mo_dayTo))), ((aMo 29), .inl (ca 3, 62, .inl (zA (zU mo_isLonger v4.toNat 1))))]) 0 rfl rfl rfl rfl rfl (Nat.le_of_ble_eq_true rfl) rfl rfl dX11_extendsDays_172 ?_
              refine g_sub [0, 1, 2, 3, 4, 5] [1, 2, 0, 3] (by decide) rfl rfl rfl ?_
              exact H175 _ _ _ _ _ hf
            · refine g_goto (pc := 154) C (tgt := 175) dX11_extendsDays_154 (by decide) ?_
              refine g_sub [0, 1, 2, 3, 4, 5] [1, 2, 0, 3] (by decide) rfl rfl rfl ?_
              exact H175 _ _ _ _ _ hf
          have H63 : ∀ (v1 : Int) (v3 : Int) (mo_isLonger : Nat → Int) (mo_longer : Int) (n63 : Nat) (v4 : Int) (v5 : Int) (v6 : Int), zlp (fX11_extendsDays_63 (zlp (fX11_extendsDays_39 (zlp (fX11_extendsDays_30 mo_rules mo_driven mo_dayFrom mo_dayTo mo_days) n30) v1 mo_rules mo_driven mo_dayFrom mo_dayTo mo_days) n39) v1 v3 mo_rules mo_driven mo_dayFrom mo_dayTo mo_isLonger mo_days mo_longer) n63 (v4, v5, v6) = some (mo_isLonger_o, mo_longer_o) → Zd D Γ 0 0 [((aMo 0), .inr (11, [.ref (aMo 1), .int (zI mo_taped), .ref (aMo 3), .ref (aMo 4), .ref (aMo 5), .ref (aMo 6), .ref (aMo 7), .ref (aMo 8), .ref (aMo 9), .ref (aMo 10), .ref (aMo 11), .ref (aMo 12), .ref (aMo 13), .ref (aMo 14), .ref (aMo 15), .ref (aMo 16), .int (zI mo_size), .int (zI mo_runs), .ref (aMo 19), .ref (aMo 20), .ref (aMo 21), .int (zI mo_found), .int (zI mo_counted), .int (zI mo_isParted), .ref (aMo 25), .ref (aMo 26), .ref (aMo 27), .ref (aMo 28), .ref (aMo 29), .int (zI mo_maybes), .int (zI mo_days), .int (zI mo_over2), .int (zI mo_longer), .ref (aMo 34)])), ((aMo 3), .inl (ca 0, 11, .inl (zA mo_rules))), ((aMo 14), .inl (ca 0, 20161, .inl (zA mo_driven))), ((aMo 26), .inl (ca 0, 62, .inl (zA mo_dayFrom))), ((aMo 27), .inl (ca 0, 62, .inl (zA mo_dayTo))), ((aMo 29), .inl (ca 3, 62, .inl (zA mo_isLonger)))] 63 [(0, .ref (aMo 0)), (1, .int (zI v1)), (3, .int (zI v3)), (4, .int (zI v4)), (5, .int (zI v5)), (6, .int (zI v6))] [] := by
            intro v1 v3 mo_isLonger mo_longer
            intro n63
            induction n63 with
            | zero =>
              intro v4 v5 v6 hf
              exact zno hf
            | succ n63 ih63 =>
              have H132 : ∀ (v1 : Int) (v3 : Int) (v4 : Int) (v5 : Int) (v6 : Int) (mo_isLonger : Nat → Int) (mo_longer : Int), fX11_extendsDays_132 (zlp (fX11_extendsDays_63 (zlp (fX11_extendsDays_39 (zlp (fX11_extendsDays_30 mo_rules mo_driven mo_dayFrom mo_dayTo mo_days) n30) v1 mo_rules mo_driven mo_dayFrom mo_dayTo mo_days) n39) v1 v3 mo_rules mo_driven mo_dayFrom mo_dayTo mo_isLonger mo_days mo_longer) n63) v4 v5 v6 = some (mo_isLonger_o, mo_longer_o) → Zd D Γ 0 0 [((aMo 0), .inr (11, [.ref (aMo 1), .int (zI mo_taped), .ref (aMo 3), .ref (aMo 4), .ref (aMo 5), .ref (aMo 6), .ref (aMo 7), .ref (aMo 8), .ref (aMo 9), .ref (aMo 10), .ref (aMo 11), .ref (aMo 12), .ref (aMo 13), .ref (aMo 14), .ref (aMo 15), .ref (aMo 16), .int (zI mo_size), .int (zI mo_runs), .ref (aMo 19), .ref (aMo 20), .ref (aMo 21), .int (zI mo_found), .int (zI mo_counted), .int (zI mo_isParted), .ref (aMo 25), .ref (aMo 26), .ref (aMo 27), .ref (aMo 28), .ref (aMo 29), .int (zI mo_maybes), .int (zI mo_days), .int (zI mo_over2), .int (zI mo_longer), .ref (aMo 34)])), ((aMo 3), .inl (ca 0, 11, .inl (zA mo_rules))), ((aMo 14), .inl (ca 0, 20161, .inl (zA mo_driven))), ((aMo 26), .inl (ca 0, 62, .inl (zA mo_dayFrom))), ((aMo 27), .inl (ca 0, 62, .inl (zA mo_dayTo))), ((aMo 29), .inl (ca 3, 62, .inl (zA mo_isLonger)))] 132 [(0, .ref (aMo 0)), (1, .int (zI v1)), (3, .int (zI v3)), (4, .int (zI v4)), (5, .int (zI v5)), (6, .int (zI v6))] [] := by
                intro v1 v3 v4 v5 v6 mo_isLonger mo_longer hf
                unfold fX11_extendsDays_132 at hf
                refine g_iinc (pc := 132) C 5 (lv' := [(6, .int (zI (v6 + 1))), (0, .ref (aMo 0)), (1, .int (zI v1)), (3, .int (zI v3)), (4, .int (zI v4)), (5, .int (zI v5))]) dX11_extendsDays_132 rfl (Nat.le_of_ble_eq_true rfl) rfl ?_
                refine g_goto (pc := 135) C (tgt := 63) dX11_extendsDays_135 (by decide) ?_
                refine g_sub [0, 1, 2, 3, 4, 5] [1, 2, 3, 4, 5, 0] (by decide) rfl rfl rfl ?_
                exact ih63 _ _ _ hf
              intro v4 v5 v6 hf
              rw [zlp_s] at hf
              unfold fX11_extendsDays_63 at hf
              dsimp only at hf
              refine g_iload (pc := 63) C 5 dX11_extendsDays_63 rfl ?_
              refine g_aload_n (pc := 65) C 0 dX11_extendsDays_65 rfl rfl ?_
              refine g_get (pc := 66) C zf_X11_154 0 rfl rfl dX11_extendsDays_66 ?_
              refine g_icmp_ge (pc := 69) C (tgt := 138) dX11_extendsDays_69 (by decide) hf (fun hf => ?_) (fun hf => ?_)
              · refine g_iload (pc := 138) C 3 dX11_extendsDays_138 rfl ?_
                refine g_iconst (pc := 140) C dX11_extendsDays_140 ?_
                refine g_icmp_eqr (pc := 141) C (tgt := 148) dX11_extendsDays_141 (by decide) (by decide) hf (fun hf => ?_) (fun hf => ?_)
                · refine g_iconst (pc := 148) C dX11_extendsDays_148 ?_
                  refine g_sub [0, 1, 2, 3, 4, 5] [0, 1, 2, 3] (by decide) rfl rfl rfl ?_
                  exact H149 _ _ _ _ _ _ hf
                · refine g_iconst (pc := 144) C dX11_extendsDays_144 ?_
                  refine g_goto (pc := 145) C (tgt := 149) dX11_extendsDays_145 (by decide) ?_
                  refine g_sub [0, 1, 2, 3, 4, 5] [0, 1, 2, 3] (by decide) rfl rfl rfl ?_
                  exact H149 _ _ _ _ _ _ hf
              · refine g_aload_n (pc := 72) C 0 dX11_extendsDays_72 rfl rfl ?_
                refine g_iload (pc := 73) C 5 dX11_extendsDays_73 rfl ?_
                refine g_iconst (pc := 75) C dX11_extendsDays_75 ?_
                obtain ⟨r_76, hc_76, hf⟩ := Option.bind_eq_some_iff.mp hf
                refine g_callV (pc := 76) C hl0 (wr := [((aMo 29), .inl (ca 3, 62, .inl (zA mo_isLonger)))]) (k' := 0) (n' := 0) (ws' := fun _ => [((aMo 29), .inl (ca 3, 62, .inl (zA mo_isLonger))), ((aMo 0), .inr (11, [.ref (aMo 1), .int (zI mo_taped), .ref (aMo 3), .ref (aMo 4), .ref (aMo 5), .ref (aMo 6), .ref (aMo 7), .ref (aMo 8), .ref (aMo 9), .ref (aMo 10), .ref (aMo 11), .ref (aMo 12), .ref (aMo 13), .ref (aMo 14), .ref (aMo 15), .ref (aMo 16), .int (zI mo_size), .int (zI mo_runs), .ref (aMo 19), .ref (aMo 20), .ref (aMo 21), .int (zI mo_found), .int (zI mo_counted), .int (zI mo_isParted), .ref (aMo 25), .ref (aMo 26), .ref (aMo 27), .ref (aMo 28), .ref (aMo 29), .int (zI mo_maybes), .int (zI mo_days), .int (zI mo_over2), .int (zI mo_longer), .ref (aMo 34)])), ((aMo 3), .inl (ca 0, 11, .inl (zA mo_rules))), ((aMo 14), .inl (ca 0, 20161, .inl (zA mo_driven))), ((aMo 26), .inl (ca 0, 62, .inl (zA mo_dayFrom))), ((aMo 27), .inl (ca 0, 62, .inl (zA mo_dayTo)))]) (st' := [.int (zI r_76)]) (kX11_overOf l D ca aMo mo_taped mo_rules mo_driven mo_size mo_runs mo_found mo_counted mo_isParted mo_dayFrom mo_dayTo mo_maybes mo_days mo_over2 mo_longer v6 0 r_76 hc_76) wml_RX11_167 wim_X11_overOf wse_X11_overOf win_RX11 wco_X11_overOf (nA := 2) rfl (by decide +kernel)  ⟨(Nat.le_of_ble_eq_true rfl), (Nat.le_of_ble_eq_true rfl)⟩ (Nat.le_refl _) (Nat.le_refl _) rfl (by decide) dX11_extendsDays_76 0 11 rfl rfl rfl [0, 1, 2, 3, 4] [5] rfl rfl rfl (by decide) (by decide) (by decide) rfl rfl (fun _ => rfl) rfl (fun _ => ?_)
                refine g_aload_n (pc := 79) C 0 dX11_extendsDays_79 rfl rfl ?_
                refine g_iload (pc := 80) C 5 dX11_extendsDays_80 rfl ?_
                refine g_iconst (pc := 82) C dX11_extendsDays_82 ?_
                obtain ⟨r_83, hc_83, hf⟩ := Option.bind_eq_some_iff.mp hf
                refine g_callV (pc := 83) C hl0 (wr := [((aMo 29), .inl (ca 3, 62, .inl (zA mo_isLonger)))]) (k' := 0) (n' := 0) (ws' := fun _ => [((aMo 29), .inl (ca 3, 62, .inl (zA mo_isLonger))), ((aMo 0), .inr (11, [.ref (aMo 1), .int (zI mo_taped), .ref (aMo 3), .ref (aMo 4), .ref (aMo 5), .ref (aMo 6), .ref (aMo 7), .ref (aMo 8), .ref (aMo 9), .ref (aMo 10), .ref (aMo 11), .ref (aMo 12), .ref (aMo 13), .ref (aMo 14), .ref (aMo 15), .ref (aMo 16), .int (zI mo_size), .int (zI mo_runs), .ref (aMo 19), .ref (aMo 20), .ref (aMo 21), .int (zI mo_found), .int (zI mo_counted), .int (zI mo_isParted), .ref (aMo 25), .ref (aMo 26), .ref (aMo 27), .ref (aMo 28), .ref (aMo 29), .int (zI mo_maybes), .int (zI mo_days), .int (zI mo_over2), .int (zI mo_longer), .ref (aMo 34)])), ((aMo 3), .inl (ca 0, 11, .inl (zA mo_rules))), ((aMo 14), .inl (ca 0, 20161, .inl (zA mo_driven))), ((aMo 26), .inl (ca 0, 62, .inl (zA mo_dayFrom))), ((aMo 27), .inl (ca 0, 62, .inl (zA mo_dayTo)))]) (st' := [.int (zI r_83), .int (zI r_76)]) (kX11_overOf l D ca aMo mo_taped mo_rules mo_driven mo_size mo_runs mo_found mo_counted mo_isParted mo_dayFrom mo_dayTo mo_maybes mo_days mo_over2 mo_longer v6 1 r_83 hc_83) wml_RX11_167 wim_X11_overOf wse_X11_overOf win_RX11 wco_X11_overOf (nA := 2) rfl (by decide +kernel)  ⟨(Nat.le_of_ble_eq_true rfl), (Nat.le_of_ble_eq_true rfl)⟩ (Nat.le_refl _) (Nat.le_refl _) rfl (by decide) dX11_extendsDays_83 1 11 rfl rfl rfl [1, 2, 3, 4, 5] [0] rfl rfl rfl (by decide) (by decide) (by decide) rfl rfl (fun _ => rfl) rfl (fun _ => ?_)
                refine g_isub (pc := 86) C dX11_extendsDays_86 ?_
                refine g_istore (pc := 87) C (lv' := [(7, .int (zI (r_76 - r_83))), (0, .ref (aMo 0)), (1, .int (zI v1)), (3, .int (zI v3)), (4, .int (zI v4)), (5, .int (zI v5)), (6, .int (zI v6))]) dX11_extendsDays_87 (Nat.le_of_ble_eq_true rfl) rfl ?_
                refine g_aload_n (pc := 89) C 1 dX11_extendsDays_89 rfl rfl ?_
                refine g_get (pc := 90) C zf_X11_77 1 rfl rfl dX11_extendsDays_90 ?_
                refine g_iload (pc := 93) C 6 dX11_extendsDays_93 rfl ?_
                refine g_zald (pc := 95) C (N := 62) 0 rfl rfl (Nat.le_of_ble_eq_true rfl) dX11_extendsDays_95 hf (fun hf => ?_)
                refine g_if_ne (pc := 96) C (tgt := 132) dX11_extendsDays_96 (by decide) hf (fun hf => ?_) (fun hf => ?_)
                · refine g_sub [1, 2, 3, 4, 5, 0] [1, 2, 3, 4, 5, 6] (by decide) rfl rfl rfl ?_
                  exact H132 _ _ _ _ _ _ _ hf
                · refine g_aload_n (pc := 99) C 1 dX11_extendsDays_99 rfl rfl ?_
                  refine g_get (pc := 100) C zf_X11_68 1 rfl rfl dX11_extendsDays_100 ?_
                  refine g_iload (pc := 103) C 6 dX11_extendsDays_103 rfl ?_
                  refine g_iald (pc := 105) C (N := 62) 4 rfl rfl (Nat.le_of_ble_eq_true rfl) dX11_extendsDays_105 hf (fun hf => ?_)
                  refine g_sipush (pc := 106) C dX11_extendsDays_106 (by decide) ?_
                  refine g_idiv (pc := 109) C dX11_extendsDays_109 (by decide) hf (fun hf => ?_)
                  refine g_iload_n (pc := 110) C 2 dX11_extendsDays_110 rfl rfl ?_
                  refine g_icmp_ne (pc := 111) C (tgt := 132) dX11_extendsDays_111 (by decide) hf (fun hf => ?_) (fun hf => ?_)
                  · refine g_sub [1, 2, 3, 4, 5, 0] [1, 2, 3, 4, 5, 6] (by decide) rfl rfl rfl ?_
                    exact H132 _ _ _ _ _ _ _ hf
                  · refine g_iload (pc := 114) C 0 dX11_extendsDays_114 rfl ?_
                    refine g_iload (pc := 116) C 5 dX11_extendsDays_116 rfl ?_
                    refine g_icmp_gt (pc := 118) C (tgt := 124) dX11_extendsDays_118 (by decide) hf (fun hf => ?_) (fun hf => ?_)
                    · refine g_iload (pc := 124) C 6 dX11_extendsDays_124 rfl ?_
                      refine g_istore (pc := 126) C (lv' := [(4, .int (zI v6)), (7, .int (zI (r_76 - r_83))), (0, .ref (aMo 0)), (1, .int (zI v1)), (3, .int (zI v3)), (5, .int (zI v5)), (6, .int (zI v6))]) dX11_extendsDays_126 (Nat.le_of_ble_eq_true rfl) rfl ?_
                      refine g_iload (pc := 128) C 1 dX11_extendsDays_128 rfl ?_
                      refine g_istore (pc := 130) C (lv' := [(5, .int (zI (r_76 - r_83))), (4, .int (zI v6)), (7, .int (zI (r_76 - r_83))), (0, .ref (aMo 0)), (1, .int (zI v1)), (3, .int (zI v3)), (6, .int (zI v6))]) dX11_extendsDays_130 (Nat.le_of_ble_eq_true rfl) rfl ?_
                      refine g_sub [1, 2, 3, 4, 5, 0] [3, 4, 5, 1, 0, 6] (by decide) rfl rfl rfl ?_
                      exact H132 _ _ _ _ _ _ _ hf
                    · refine g_goto (pc := 121) C (tgt := 132) dX11_extendsDays_121 (by decide) ?_
                      refine g_sub [1, 2, 3, 4, 5, 0] [1, 2, 3, 4, 5, 6] (by decide) rfl rfl rfl ?_
                      exact H132 _ _ _ _ _ _ _ hf
          intro v2 v3 mo_isLonger mo_longer hf
          rw [zlp_s] at hf
          unfold fX11_extendsDays_39 at hf
          dsimp only at hf
          refine g_iload_n (pc := 39) C 3 dX11_extendsDays_39 rfl rfl ?_
          refine g_aload_n (pc := 40) C 0 dX11_extendsDays_40 rfl rfl ?_
          refine g_get (pc := 41) C zf_X11_13 0 rfl rfl dX11_extendsDays_41 ?_
          refine g_bipush (pc := 44) C dX11_extendsDays_44 (by decide) ?_
          refine g_ialdK (pc := 46) C 6 1 rfl rfl (Nat.le_of_ble_eq_true rfl) (Nat.le_of_ble_eq_true rfl) dX11_extendsDays_46 ?_
          refine g_icmp_ge (pc := 47) C (tgt := 181) dX11_extendsDays_47 (by decide) hf (fun hf => ?_) (fun hf => ?_)
          · refine g_sub [0, 1, 2, 3, 4, 5] [0, 1] (by decide) rfl rfl rfl ?_
            exact H181 _ _ _ hf
          · refine g_iload_n (pc := 50) C 2 dX11_extendsDays_50 rfl rfl ?_
            refine g_if_eq (pc := 51) C (tgt := 181) dX11_extendsDays_51 (by decide) hf (fun hf => ?_) (fun hf => ?_)
            · refine g_sub [0, 1, 2, 3, 4, 5] [0, 1] (by decide) rfl rfl rfl ?_
              exact H181 _ _ _ hf
            · refine g_iconst (pc := 54) C dX11_extendsDays_54 ?_
              refine g_istore (pc := 55) C (lv' := [(4, .int (zI (-1))), (0, .ref (aMo 0)), (1, .int (zI v1)), (2, .int (zI v2)), (3, .int (zI v3))]) dX11_extendsDays_55 (Nat.le_of_ble_eq_true rfl) rfl ?_
              refine g_iconst (pc := 57) C dX11_extendsDays_57 ?_
              refine g_istore (pc := 58) C (lv' := [(5, .int (zI 0)), (4, .int (zI (-1))), (0, .ref (aMo 0)), (1, .int (zI v1)), (2, .int (zI v2)), (3, .int (zI v3))]) dX11_extendsDays_58 (Nat.le_of_ble_eq_true rfl) rfl ?_
              refine g_iconst (pc := 60) C dX11_extendsDays_60 ?_
              refine g_istore (pc := 61) C (lv' := [(6, .int (zI 0)), (5, .int (zI 0)), (4, .int (zI (-1))), (0, .ref (aMo 0)), (1, .int (zI v1)), (2, .int (zI v2)), (3, .int (zI v3))]) dX11_extendsDays_61 (Nat.le_of_ble_eq_true rfl) rfl ?_
              refine g_sub [0, 1, 2, 3, 4, 5] [3, 4, 6, 2, 1, 0] (by decide) rfl rfl rfl ?_
              exact H63 _ _ _ _ _ _ _ _ hf
      intro v1 mo_isLonger mo_longer hf
      rw [zlp_s] at hf
      unfold fX11_extendsDays_30 at hf
      dsimp only at hf
      refine g_iload_n (pc := 30) C 1 dX11_extendsDays_30 rfl rfl ?_
      refine g_iconst (pc := 31) C dX11_extendsDays_31 ?_
      refine g_icmp_ger (pc := 32) C (tgt := 187) dX11_extendsDays_32 (by decide) (by decide) hf (fun hf => ?_) (fun hf => ?_)
      · cases hf
        exact g_vret (pc := 187) C E (fun _ => 0) [0, 1, 2, 3, 4, 5] (by decide) rfl rfl (Nat.le_refl _) (Nat.le_refl _) dX11_extendsDays_187
      · refine g_iconst (pc := 35) C dX11_extendsDays_35 ?_
        refine g_istore_n (pc := 36) C (lv' := [(2, .int (zI 1)), (0, .ref (aMo 0)), (1, .int (zI v1))]) dX11_extendsDays_36 rfl (Nat.le_of_ble_eq_true rfl) rfl ?_
        refine g_iconst (pc := 37) C dX11_extendsDays_37 ?_
        refine g_istore_n (pc := 38) C (lv' := [(3, .int (zI 0)), (2, .int (zI 1)), (0, .ref (aMo 0)), (1, .int (zI v1))]) dX11_extendsDays_38 rfl (Nat.le_of_ble_eq_true rfl) rfl ?_
        refine g_sub [0, 1, 2, 3, 4, 5] [2, 3, 1, 0] (by decide) rfl rfl rfl ?_
        exact H39 _ _ _ _ _ _ hf
  have H7 : ∀ (mo_longer : Int) (n7 : Nat) (v1 : Int) (mo_isLonger : Nat → Int), zlp (fX11_extendsDays_7 mo_rules mo_driven mo_dayFrom mo_dayTo mo_days mo_longer) n7 (v1, mo_isLonger) = some (mo_isLonger_o, mo_longer_o) → Zd D Γ 0 0 [((aMo 0), .inr (11, [.ref (aMo 1), .int (zI mo_taped), .ref (aMo 3), .ref (aMo 4), .ref (aMo 5), .ref (aMo 6), .ref (aMo 7), .ref (aMo 8), .ref (aMo 9), .ref (aMo 10), .ref (aMo 11), .ref (aMo 12), .ref (aMo 13), .ref (aMo 14), .ref (aMo 15), .ref (aMo 16), .int (zI mo_size), .int (zI mo_runs), .ref (aMo 19), .ref (aMo 20), .ref (aMo 21), .int (zI mo_found), .int (zI mo_counted), .int (zI mo_isParted), .ref (aMo 25), .ref (aMo 26), .ref (aMo 27), .ref (aMo 28), .ref (aMo 29), .int (zI mo_maybes), .int (zI mo_days), .int (zI mo_over2), .int (zI mo_longer), .ref (aMo 34)])), ((aMo 3), .inl (ca 0, 11, .inl (zA mo_rules))), ((aMo 14), .inl (ca 0, 20161, .inl (zA mo_driven))), ((aMo 26), .inl (ca 0, 62, .inl (zA mo_dayFrom))), ((aMo 27), .inl (ca 0, 62, .inl (zA mo_dayTo))), ((aMo 29), .inl (ca 3, 62, .inl (zA mo_isLonger)))] 7 [(0, .ref (aMo 0)), (1, .int (zI v1))] [] := by
    intro mo_longer
    intro n7
    induction n7 with
    | zero =>
      intro v1 mo_isLonger hf
      exact zno hf
    | succ n7 ih7 =>
      intro v1 mo_isLonger hf
      rw [zlp_s] at hf
      unfold fX11_extendsDays_7 at hf
      dsimp only at hf
      refine g_iload_n (pc := 7) C 1 dX11_extendsDays_7 rfl rfl ?_
      refine g_aload_n (pc := 8) C 0 dX11_extendsDays_8 rfl rfl ?_
      refine g_get (pc := 9) C zf_X11_154 0 rfl rfl dX11_extendsDays_9 ?_
      refine g_icmp_ge (pc := 12) C (tgt := 28) dX11_extendsDays_12 (by decide) hf (fun hf => ?_) (fun hf => ?_)
      · refine g_iconst (pc := 28) C dX11_extendsDays_28 ?_
        refine g_istore_n (pc := 29) C (lv' := [(1, .int (zI 0)), (0, .ref (aMo 0))]) dX11_extendsDays_29 rfl (Nat.le_of_ble_eq_true rfl) rfl ?_
        refine g_sub [0, 1, 2, 3, 4, 5] [1, 0] (by decide) rfl rfl rfl ?_
        exact H30 _ _ _ _ hf
      · refine g_aload_n (pc := 15) C 0 dX11_extendsDays_15 rfl rfl ?_
        refine g_get (pc := 16) C zf_X11_77 0 rfl rfl dX11_extendsDays_16 ?_
        refine g_iload_n (pc := 19) C 1 dX11_extendsDays_19 rfl rfl ?_
        refine g_iconst (pc := 20) C dX11_extendsDays_20 ?_
        refine g_zast (pc := 21) C (N := 62) (ws' := [((aMo 0), .inr (11, [.ref (aMo 1), .int (zI mo_taped), .ref (aMo 3), .ref (aMo 4), .ref (aMo 5), .ref (aMo 6), .ref (aMo 7), .ref (aMo 8), .ref (aMo 9), .ref (aMo 10), .ref (aMo 11), .ref (aMo 12), .ref (aMo 13), .ref (aMo 14), .ref (aMo 15), .ref (aMo 16), .int (zI mo_size), .int (zI mo_runs), .ref (aMo 19), .ref (aMo 20), .ref (aMo 21), .int (zI mo_found), .int (zI mo_counted), .int (zI mo_isParted), .ref (aMo 25), .ref (aMo 26), .ref (aMo 27), .ref (aMo 28), .ref (aMo 29), .int (zI mo_maybes), .int (zI mo_days), .int (zI mo_over2), .int (zI mo_longer), .ref (aMo 34)])), ((aMo 3), .inl (ca 0, 11, .inl (zA mo_rules))), ((aMo 14), .inl (ca 0, 20161, .inl (zA mo_driven))), ((aMo 26), .inl (ca 0, 62, .inl (zA mo_dayFrom))), ((aMo 27), .inl (ca 0, 62, .inl (zA mo_dayTo))), ((aMo 29), .inl (ca 3, 62, .inl (zA (zU mo_isLonger v1.toNat 0))))]) 5 rfl rfl (Nat.le_of_ble_eq_true rfl) (by decide) rfl dX11_extendsDays_21 hf (fun hf => ?_)
        refine g_iinc (pc := 22) C 1 (lv' := [(1, .int (zI (v1 + 1))), (0, .ref (aMo 0))]) dX11_extendsDays_22 rfl (Nat.le_of_ble_eq_true rfl) rfl ?_
        refine g_goto (pc := 25) C (tgt := 7) dX11_extendsDays_25 (by decide) ?_
        refine g_sub [0, 1, 2, 3, 4, 5] [1, 0] (by decide) rfl rfl rfl ?_
        exact ih7 _ _ hf
  unfold fX11_extendsDays at hf
  refine g_aload_n (pc := 0) C 0 dX11_extendsDays_0 rfl rfl ?_
  refine g_iconst (pc := 1) C dX11_extendsDays_1 ?_
  refine g_put (pc := 2) C zf_X11_164 tyX11 tyX11_ok nmX11 (v := .int (zI 0)) (ws' := [((aMo 0), .inr (11, [.ref (aMo 1), .int (zI mo_taped), .ref (aMo 3), .ref (aMo 4), .ref (aMo 5), .ref (aMo 6), .ref (aMo 7), .ref (aMo 8), .ref (aMo 9), .ref (aMo 10), .ref (aMo 11), .ref (aMo 12), .ref (aMo 13), .ref (aMo 14), .ref (aMo 15), .ref (aMo 16), .int (zI mo_size), .int (zI mo_runs), .ref (aMo 19), .ref (aMo 20), .ref (aMo 21), .int (zI mo_found), .int (zI mo_counted), .int (zI mo_isParted), .ref (aMo 25), .ref (aMo 26), .ref (aMo 27), .ref (aMo 28), .ref (aMo 29), .int (zI mo_maybes), .int (zI mo_days), .int (zI mo_over2), .int (zI 0), .ref (aMo 34)])), ((aMo 3), .inl (ca 0, 11, .inl (zA mo_rules))), ((aMo 14), .inl (ca 0, 20161, .inl (zA mo_driven))), ((aMo 26), .inl (ca 0, 62, .inl (zA mo_dayFrom))), ((aMo 27), .inl (ca 0, 62, .inl (zA mo_dayTo))), ((aMo 29), .inl (ca 3, 62, .inl (zA mo_isLonger)))]) 0 rfl rfl rfl rfl rfl (Nat.le_of_ble_eq_true rfl) rfl rfl dX11_extendsDays_2 ?_
  refine g_iconst (pc := 5) C dX11_extendsDays_5 ?_
  refine g_istore_n (pc := 6) C (lv' := [(1, .int (zI 0)), (0, .ref (aMo 0))]) dX11_extendsDays_6 rfl (Nat.le_of_ble_eq_true rfl) rfl ?_
  refine g_sub [0, 1, 2, 3, 4, 5] [1, 0] (by decide) rfl rfl rfl ?_
  exact H7 _ _ _ _ hf
set_option maxRecDepth 100000 in
theorem kX11_lateOf (l : Launch) (D : va_G) (ca : Nat → ClassId) (aMo : Nat → Nat) (mo_taped : Int) (mo_rules : Nat → Int) (mo_runFrom : Nat → Int) (mo_runTo : Nat → Int) (mo_size : Int) (mo_runs : Int) (mo_found : Int) (mo_counted : Int) (mo_isParted : Int) (mo_dayFrom : Nat → Int) (mo_dayRun : Nat → Int) (mo_maybes : Int) (mo_days : Int) (mo_over2 : Int) (mo_longer : Int) (v1 : Int) (r_o : Int)
    (hf : fX11_lateOf v1 mo_rules mo_runFrom mo_runTo mo_size mo_dayFrom mo_dayRun = some r_o) : Zc l D ca yX11_lateOf cX11_lateOf 5 (some .int) { frames := 1, cells := 0, slots := 0, locals := 21 } [.ref (aMo 0), .int (zI v1)] [((aMo 0), .inr (11, [.ref (aMo 1), .int (zI mo_taped), .ref (aMo 3), .ref (aMo 4), .ref (aMo 5), .ref (aMo 6), .ref (aMo 7), .ref (aMo 8), .ref (aMo 9), .ref (aMo 10), .ref (aMo 11), .ref (aMo 12), .ref (aMo 13), .ref (aMo 14), .ref (aMo 15), .ref (aMo 16), .int (zI mo_size), .int (zI mo_runs), .ref (aMo 19), .ref (aMo 20), .ref (aMo 21), .int (zI mo_found), .int (zI mo_counted), .int (zI mo_isParted), .ref (aMo 25), .ref (aMo 26), .ref (aMo 27), .ref (aMo 28), .ref (aMo 29), .int (zI mo_maybes), .int (zI mo_days), .int (zI mo_over2), .int (zI mo_longer), .ref (aMo 34)])), ((aMo 3), .inl (ca 0, 11, .inl (zA mo_rules))), ((aMo 15), .inl (ca 0, 60, .inl (zA mo_runFrom))), ((aMo 16), .inl (ca 0, 60, .inl (zA mo_runTo))), ((aMo 26), .inl (ca 0, 62, .inl (zA mo_dayFrom))), ((aMo 28), .inl (ca 0, 62, .inl (zA mo_dayRun)))] (some (.int (zI r_o))) (fun _ => [((aMo 0), .inr (11, [.ref (aMo 1), .int (zI mo_taped), .ref (aMo 3), .ref (aMo 4), .ref (aMo 5), .ref (aMo 6), .ref (aMo 7), .ref (aMo 8), .ref (aMo 9), .ref (aMo 10), .ref (aMo 11), .ref (aMo 12), .ref (aMo 13), .ref (aMo 14), .ref (aMo 15), .ref (aMo 16), .int (zI mo_size), .int (zI mo_runs), .ref (aMo 19), .ref (aMo 20), .ref (aMo 21), .int (zI mo_found), .int (zI mo_counted), .int (zI mo_isParted), .ref (aMo 25), .ref (aMo 26), .ref (aMo 27), .ref (aMo 28), .ref (aMo 29), .int (zI mo_maybes), .int (zI mo_days), .int (zI mo_over2), .int (zI mo_longer), .ref (aMo 34)])), ((aMo 3), .inl (ca 0, 11, .inl (zA mo_rules))), ((aMo 15), .inl (ca 0, 60, .inl (zA mo_runFrom))), ((aMo 16), .inl (ca 0, 60, .inl (zA mo_runTo))), ((aMo 26), .inl (ca 0, 62, .inl (zA mo_dayFrom))), ((aMo 28), .inl (ca 0, 62, .inl (zA mo_dayRun)))]) := by
  refine ctr_of (lv := [(0, .ref (aMo 0)), (1, .int (zI v1))]) (by decide +kernel) (Nat.le_of_ble_eq_true rfl) rfl (fun Γ hl0 C E hnm => ?_)
  have H58 : ∀ (s0 : Int), fX11_lateOf_58 v1 s0 mo_dayFrom = some r_o → Zd D Γ 0 0 [((aMo 0), .inr (11, [.ref (aMo 1), .int (zI mo_taped), .ref (aMo 3), .ref (aMo 4), .ref (aMo 5), .ref (aMo 6), .ref (aMo 7), .ref (aMo 8), .ref (aMo 9), .ref (aMo 10), .ref (aMo 11), .ref (aMo 12), .ref (aMo 13), .ref (aMo 14), .ref (aMo 15), .ref (aMo 16), .int (zI mo_size), .int (zI mo_runs), .ref (aMo 19), .ref (aMo 20), .ref (aMo 21), .int (zI mo_found), .int (zI mo_counted), .int (zI mo_isParted), .ref (aMo 25), .ref (aMo 26), .ref (aMo 27), .ref (aMo 28), .ref (aMo 29), .int (zI mo_maybes), .int (zI mo_days), .int (zI mo_over2), .int (zI mo_longer), .ref (aMo 34)])), ((aMo 3), .inl (ca 0, 11, .inl (zA mo_rules))), ((aMo 15), .inl (ca 0, 60, .inl (zA mo_runFrom))), ((aMo 16), .inl (ca 0, 60, .inl (zA mo_runTo))), ((aMo 26), .inl (ca 0, 62, .inl (zA mo_dayFrom))), ((aMo 28), .inl (ca 0, 62, .inl (zA mo_dayRun)))] 58 [(0, .ref (aMo 0)), (1, .int (zI v1))] [.int (zI s0)] := by
    intro s0 hf
    unfold fX11_lateOf_58 at hf
    refine g_istore_n (pc := 58) C (lv' := [(3, .int (zI s0)), (0, .ref (aMo 0)), (1, .int (zI v1))]) dX11_lateOf_58 rfl (Nat.le_of_ble_eq_true rfl) rfl ?_
    refine g_iload_n (pc := 59) C 0 dX11_lateOf_59 rfl rfl ?_
    refine g_aload_n (pc := 60) C 1 dX11_lateOf_60 rfl rfl ?_
    refine g_get (pc := 61) C zf_X11_68 0 rfl rfl dX11_lateOf_61 ?_
    refine g_iload_n (pc := 64) C 2 dX11_lateOf_64 rfl rfl ?_
    refine g_iald (pc := 65) C (N := 62) 4 rfl rfl (Nat.le_of_ble_eq_true rfl) dX11_lateOf_65 hf (fun hf => ?_)
    refine g_isub (pc := 66) C dX11_lateOf_66 ?_
    refine g_sipush (pc := 67) C dX11_lateOf_67 (by decide) ?_
    refine g_isub (pc := 70) C dX11_lateOf_70 ?_
    refine g_istore (pc := 71) C (lv' := [(4, .int (zI ((s0 - (mo_dayFrom v1.toNat)) - 1440))), (3, .int (zI s0)), (0, .ref (aMo 0)), (1, .int (zI v1))]) dX11_lateOf_71 (Nat.le_of_ble_eq_true rfl) rfl ?_
    refine g_iload (pc := 73) C 0 dX11_lateOf_73 rfl ?_
    refine g_if_le (pc := 75) C (tgt := 83) dX11_lateOf_75 (by decide) hf (fun hf => ?_) (fun hf => ?_)
    · refine g_iconst (pc := 83) C dX11_lateOf_83 ?_
      cases hf
      exact g_iret (pc := 84) C E (fun _ => 0) [0, 1, 2, 3, 4, 5] (by decide) rfl rfl (Nat.le_refl _) (Nat.le_refl _) dX11_lateOf_84
    · refine g_iload (pc := 78) C 0 dX11_lateOf_78 rfl ?_
      refine g_goto (pc := 80) C (tgt := 84) dX11_lateOf_80 (by decide) ?_
      cases hf
      exact g_iret (pc := 84) C E (fun _ => 0) [0, 1, 2, 3, 4, 5] (by decide) rfl rfl (Nat.le_refl _) (Nat.le_refl _) dX11_lateOf_84
  have H57 : ∀ (s0 : Int) (s1 : Int), fX11_lateOf_57 v1 s0 s1 mo_dayFrom = some r_o → Zd D Γ 0 0 [((aMo 0), .inr (11, [.ref (aMo 1), .int (zI mo_taped), .ref (aMo 3), .ref (aMo 4), .ref (aMo 5), .ref (aMo 6), .ref (aMo 7), .ref (aMo 8), .ref (aMo 9), .ref (aMo 10), .ref (aMo 11), .ref (aMo 12), .ref (aMo 13), .ref (aMo 14), .ref (aMo 15), .ref (aMo 16), .int (zI mo_size), .int (zI mo_runs), .ref (aMo 19), .ref (aMo 20), .ref (aMo 21), .int (zI mo_found), .int (zI mo_counted), .int (zI mo_isParted), .ref (aMo 25), .ref (aMo 26), .ref (aMo 27), .ref (aMo 28), .ref (aMo 29), .int (zI mo_maybes), .int (zI mo_days), .int (zI mo_over2), .int (zI mo_longer), .ref (aMo 34)])), ((aMo 3), .inl (ca 0, 11, .inl (zA mo_rules))), ((aMo 15), .inl (ca 0, 60, .inl (zA mo_runFrom))), ((aMo 16), .inl (ca 0, 60, .inl (zA mo_runTo))), ((aMo 26), .inl (ca 0, 62, .inl (zA mo_dayFrom))), ((aMo 28), .inl (ca 0, 62, .inl (zA mo_dayRun)))] 57 [(0, .ref (aMo 0)), (1, .int (zI v1))] [.int (zI s1), .int (zI s0)] := by
    intro s0 s1 hf
    unfold fX11_lateOf_57 at hf
    refine g_iadd (pc := 57) C dX11_lateOf_57 ?_
    exact H58 _ hf
  unfold fX11_lateOf at hf
  refine g_aload_n (pc := 0) C 0 dX11_lateOf_0 rfl rfl ?_
  refine g_get (pc := 1) C zf_X11_74 0 rfl rfl dX11_lateOf_1 ?_
  refine g_iload_n (pc := 4) C 1 dX11_lateOf_4 rfl rfl ?_
  refine g_iald (pc := 5) C (N := 62) 5 rfl rfl (Nat.le_of_ble_eq_true rfl) dX11_lateOf_5 hf (fun hf => ?_)
  refine g_istore_n (pc := 6) C (lv' := [(2, .int (zI (mo_dayRun v1.toNat))), (0, .ref (aMo 0)), (1, .int (zI v1))]) dX11_lateOf_6 rfl (Nat.le_of_ble_eq_true rfl) rfl ?_
  refine g_iload_n (pc := 7) C 0 dX11_lateOf_7 rfl rfl ?_
  refine g_iconst (pc := 8) C dX11_lateOf_8 ?_
  refine g_icmp_ner (pc := 9) C (tgt := 19) dX11_lateOf_9 (by decide) (by decide) hf (fun hf => ?_) (fun hf => ?_)
  · refine g_aload_n (pc := 19) C 1 dX11_lateOf_19 rfl rfl ?_
    refine g_get (pc := 20) C zf_X11_50 0 rfl rfl dX11_lateOf_20 ?_
    refine g_iload_n (pc := 23) C 0 dX11_lateOf_23 rfl rfl ?_
    refine g_iald (pc := 24) C (N := 60) 2 rfl rfl (Nat.le_of_ble_eq_true rfl) dX11_lateOf_24 hf (fun hf => ?_)
    refine g_aload_n (pc := 25) C 1 dX11_lateOf_25 rfl rfl ?_
    refine g_iload_n (pc := 26) C 0 dX11_lateOf_26 rfl rfl ?_
    obtain ⟨r_27, hc_27, hf⟩ := Option.bind_eq_some_iff.mp hf
    refine g_callV (pc := 27) C hl0 (wr := [((aMo 3), .inl (ca 0, 11, .inl (zA mo_rules))), ((aMo 26), .inl (ca 0, 62, .inl (zA mo_dayFrom))), ((aMo 28), .inl (ca 0, 62, .inl (zA mo_dayRun)))]) (k' := 0) (n' := 0) (ws' := fun _ => [((aMo 3), .inl (ca 0, 11, .inl (zA mo_rules))), ((aMo 26), .inl (ca 0, 62, .inl (zA mo_dayFrom))), ((aMo 28), .inl (ca 0, 62, .inl (zA mo_dayRun))), ((aMo 0), .inr (11, [.ref (aMo 1), .int (zI mo_taped), .ref (aMo 3), .ref (aMo 4), .ref (aMo 5), .ref (aMo 6), .ref (aMo 7), .ref (aMo 8), .ref (aMo 9), .ref (aMo 10), .ref (aMo 11), .ref (aMo 12), .ref (aMo 13), .ref (aMo 14), .ref (aMo 15), .ref (aMo 16), .int (zI mo_size), .int (zI mo_runs), .ref (aMo 19), .ref (aMo 20), .ref (aMo 21), .int (zI mo_found), .int (zI mo_counted), .int (zI mo_isParted), .ref (aMo 25), .ref (aMo 26), .ref (aMo 27), .ref (aMo 28), .ref (aMo 29), .int (zI mo_maybes), .int (zI mo_days), .int (zI mo_over2), .int (zI mo_longer), .ref (aMo 34)])), ((aMo 15), .inl (ca 0, 60, .inl (zA mo_runFrom))), ((aMo 16), .inl (ca 0, 60, .inl (zA mo_runTo)))]) (st' := [.int (zI r_27), .int (zI (mo_runFrom (mo_dayRun v1.toNat).toNat))]) (kX11_runLength l D ca aMo mo_taped mo_runFrom mo_runTo mo_size mo_runs mo_found mo_counted mo_isParted mo_maybes mo_days mo_over2 mo_longer (mo_dayRun v1.toNat) r_27 hc_27) wml_RX11_141 wim_X11_runLength wse_X11_runLength win_RX11 wco_X11_runLength (nA := 1) rfl (by decide +kernel)  ⟨(Nat.le_of_ble_eq_true rfl), (Nat.le_of_ble_eq_true rfl)⟩ (Nat.le_refl _) (Nat.le_refl _) rfl (by decide) dX11_lateOf_27 0 11 rfl rfl rfl [0, 2, 3] [1, 4, 5] rfl rfl rfl (by decide) (by decide) (by decide) rfl rfl (fun _ => rfl) rfl (fun _ => ?_)
    refine g_aload_n (pc := 30) C 1 dX11_lateOf_30 rfl rfl ?_
    refine g_get (pc := 31) C zf_X11_13 3 rfl rfl dX11_lateOf_31 ?_
    refine g_bipush (pc := 34) C dX11_lateOf_34 (by decide) ?_
    refine g_ialdK (pc := 36) C 7 0 rfl rfl (Nat.le_of_ble_eq_true rfl) (Nat.le_of_ble_eq_true rfl) dX11_lateOf_36 ?_
    refine g_icmp_lt (pc := 37) C (tgt := 50) dX11_lateOf_37 (by decide) hf (fun hf => ?_) (fun hf => ?_)
    · refine g_aload_n (pc := 50) C 1 dX11_lateOf_50 rfl rfl ?_
      refine g_get (pc := 51) C zf_X11_13 3 rfl rfl dX11_lateOf_51 ?_
      refine g_bipush (pc := 54) C dX11_lateOf_54 (by decide) ?_
      refine g_ialdK (pc := 56) C 8 0 rfl rfl (Nat.le_of_ble_eq_true rfl) (Nat.le_of_ble_eq_true rfl) dX11_lateOf_56 ?_
      refine g_sub [3, 0, 4, 5, 1, 2] [1, 2] (by decide) rfl rfl rfl ?_
      exact H57 _ _ hf
    · refine g_aload_n (pc := 40) C 1 dX11_lateOf_40 rfl rfl ?_
      refine g_get (pc := 41) C zf_X11_13 3 rfl rfl dX11_lateOf_41 ?_
      refine g_bipush (pc := 44) C dX11_lateOf_44 (by decide) ?_
      refine g_ialdK (pc := 46) C 7 0 rfl rfl (Nat.le_of_ble_eq_true rfl) (Nat.le_of_ble_eq_true rfl) dX11_lateOf_46 ?_
      refine g_goto (pc := 47) C (tgt := 57) dX11_lateOf_47 (by decide) ?_
      refine g_sub [3, 0, 4, 5, 1, 2] [1, 2] (by decide) rfl rfl rfl ?_
      exact H57 _ _ hf
  · refine g_aload_n (pc := 12) C 1 dX11_lateOf_12 rfl rfl ?_
    refine g_get (pc := 13) C zf_X11_121 0 rfl rfl dX11_lateOf_13 ?_
    refine g_goto (pc := 16) C (tgt := 58) dX11_lateOf_16 (by decide) ?_
    refine g_sub [0, 1, 2, 3, 4, 5] [1, 2] (by decide) rfl rfl rfl ?_
    exact H58 _ hf
set_option maxRecDepth 100000 in
theorem kX11_reckons (l : Launch) (D : va_G) (ca : Nat → ClassId) (aMo : Nat → Nat) (mo_taped : Int) (mo_rules : Nat → Int) (mo_driven : Nat → Int) (mo_runFrom : Nat → Int) (mo_runTo : Nat → Int) (mo_size : Int) (mo_runs : Int) (mo_found : Int) (mo_counted : Int) (mo_isParted : Int) (mo_maybe : Nat → Int) (mo_dayFrom : Nat → Int) (mo_dayTo : Nat → Int) (mo_dayRun : Nat → Int) (mo_isLonger : Nat → Int) (mo_maybes : Int) (mo_days : Int) (mo_over2 : Int) (mo_longer : Int) (v1 : Int) (mo_dayFrom_o : Nat → Int) (mo_dayTo_o : Nat → Int) (mo_dayRun_o : Nat → Int) (mo_isLonger_o : Nat → Int) (mo_days_o : Int) (mo_over2_o : Int) (mo_longer_o : Int)
    (hf : fX11_reckons v1 mo_rules mo_driven mo_runFrom mo_runTo mo_size mo_runs mo_maybe mo_dayFrom mo_dayTo mo_dayRun mo_isLonger mo_maybes mo_days mo_over2 mo_longer = some (mo_dayFrom_o, mo_dayTo_o, mo_dayRun_o, mo_isLonger_o, mo_days_o, mo_over2_o, mo_longer_o)) : Zc l D ca yX11_reckons cX11_reckons 3 none { frames := 3, cells := 0, slots := 0, locals := 72 } [.ref (aMo 0), .int (zI v1)] [((aMo 0), .inr (11, [.ref (aMo 1), .int (zI mo_taped), .ref (aMo 3), .ref (aMo 4), .ref (aMo 5), .ref (aMo 6), .ref (aMo 7), .ref (aMo 8), .ref (aMo 9), .ref (aMo 10), .ref (aMo 11), .ref (aMo 12), .ref (aMo 13), .ref (aMo 14), .ref (aMo 15), .ref (aMo 16), .int (zI mo_size), .int (zI mo_runs), .ref (aMo 19), .ref (aMo 20), .ref (aMo 21), .int (zI mo_found), .int (zI mo_counted), .int (zI mo_isParted), .ref (aMo 25), .ref (aMo 26), .ref (aMo 27), .ref (aMo 28), .ref (aMo 29), .int (zI mo_maybes), .int (zI mo_days), .int (zI mo_over2), .int (zI mo_longer), .ref (aMo 34)])), ((aMo 3), .inl (ca 0, 11, .inl (zA mo_rules))), ((aMo 14), .inl (ca 0, 20161, .inl (zA mo_driven))), ((aMo 15), .inl (ca 0, 60, .inl (zA mo_runFrom))), ((aMo 16), .inl (ca 0, 60, .inl (zA mo_runTo))), ((aMo 25), .inl (ca 0, 12, .inl (zA mo_maybe))), ((aMo 26), .inl (ca 0, 62, .inl (zA mo_dayFrom))), ((aMo 27), .inl (ca 0, 62, .inl (zA mo_dayTo))), ((aMo 28), .inl (ca 0, 62, .inl (zA mo_dayRun))), ((aMo 29), .inl (ca 3, 62, .inl (zA mo_isLonger)))] none (fun _ => [((aMo 0), .inr (11, [.ref (aMo 1), .int (zI mo_taped), .ref (aMo 3), .ref (aMo 4), .ref (aMo 5), .ref (aMo 6), .ref (aMo 7), .ref (aMo 8), .ref (aMo 9), .ref (aMo 10), .ref (aMo 11), .ref (aMo 12), .ref (aMo 13), .ref (aMo 14), .ref (aMo 15), .ref (aMo 16), .int (zI mo_size), .int (zI mo_runs), .ref (aMo 19), .ref (aMo 20), .ref (aMo 21), .int (zI mo_found), .int (zI mo_counted), .int (zI mo_isParted), .ref (aMo 25), .ref (aMo 26), .ref (aMo 27), .ref (aMo 28), .ref (aMo 29), .int (zI mo_maybes), .int (zI mo_days_o), .int (zI mo_over2_o), .int (zI mo_longer_o), .ref (aMo 34)])), ((aMo 3), .inl (ca 0, 11, .inl (zA mo_rules))), ((aMo 14), .inl (ca 0, 20161, .inl (zA mo_driven))), ((aMo 15), .inl (ca 0, 60, .inl (zA mo_runFrom))), ((aMo 16), .inl (ca 0, 60, .inl (zA mo_runTo))), ((aMo 25), .inl (ca 0, 12, .inl (zA mo_maybe))), ((aMo 26), .inl (ca 0, 62, .inl (zA mo_dayFrom_o))), ((aMo 27), .inl (ca 0, 62, .inl (zA mo_dayTo_o))), ((aMo 28), .inl (ca 0, 62, .inl (zA mo_dayRun_o))), ((aMo 29), .inl (ca 3, 62, .inl (zA mo_isLonger_o)))]) := by
  refine ctr_of (lv := [(0, .ref (aMo 0)), (1, .int (zI v1))]) (by decide +kernel) (Nat.le_of_ble_eq_true rfl) rfl (fun Γ hl0 C E hnm => ?_)
  have H16 : ∀ (mo_dayFrom : Nat → Int) (mo_dayTo : Nat → Int) (mo_dayRun : Nat → Int) (mo_isLonger : Nat → Int) (mo_days : Int) (mo_longer : Int) (n16 : Nat) (v2 : Int) (mo_over2 : Int), zlp (fX11_reckons_16 mo_rules mo_driven mo_runFrom mo_runTo mo_size mo_dayFrom mo_dayTo mo_dayRun mo_isLonger mo_days mo_longer) n16 (v2, mo_over2) = some (mo_dayFrom_o, mo_dayTo_o, mo_dayRun_o, mo_isLonger_o, mo_days_o, mo_over2_o, mo_longer_o) → Zd D Γ 0 0 [((aMo 0), .inr (11, [.ref (aMo 1), .int (zI mo_taped), .ref (aMo 3), .ref (aMo 4), .ref (aMo 5), .ref (aMo 6), .ref (aMo 7), .ref (aMo 8), .ref (aMo 9), .ref (aMo 10), .ref (aMo 11), .ref (aMo 12), .ref (aMo 13), .ref (aMo 14), .ref (aMo 15), .ref (aMo 16), .int (zI mo_size), .int (zI mo_runs), .ref (aMo 19), .ref (aMo 20), .ref (aMo 21), .int (zI mo_found), .int (zI mo_counted), .int (zI mo_isParted), .ref (aMo 25), .ref (aMo 26), .ref (aMo 27), .ref (aMo 28), .ref (aMo 29), .int (zI mo_maybes), .int (zI mo_days), .int (zI mo_over2), .int (zI mo_longer), .ref (aMo 34)])), ((aMo 3), .inl (ca 0, 11, .inl (zA mo_rules))), ((aMo 14), .inl (ca 0, 20161, .inl (zA mo_driven))), ((aMo 15), .inl (ca 0, 60, .inl (zA mo_runFrom))), ((aMo 16), .inl (ca 0, 60, .inl (zA mo_runTo))), ((aMo 25), .inl (ca 0, 12, .inl (zA mo_maybe))), ((aMo 26), .inl (ca 0, 62, .inl (zA mo_dayFrom))), ((aMo 27), .inl (ca 0, 62, .inl (zA mo_dayTo))), ((aMo 28), .inl (ca 0, 62, .inl (zA mo_dayRun))), ((aMo 29), .inl (ca 3, 62, .inl (zA mo_isLonger)))] 16 [(0, .ref (aMo 0)), (2, .int (zI v2))] [] := by
    intro mo_dayFrom mo_dayTo mo_dayRun mo_isLonger mo_days mo_longer
    intro n16
    induction n16 with
    | zero =>
      intro v2 mo_over2 hf
      exact zno hf
    | succ n16 ih16 =>
      intro v2 mo_over2 hf
      rw [zlp_s] at hf
      unfold fX11_reckons_16 at hf
      dsimp only at hf
      refine g_iload_n (pc := 16) C 1 dX11_reckons_16 rfl rfl ?_
      refine g_aload_n (pc := 17) C 0 dX11_reckons_17 rfl rfl ?_
      refine g_get (pc := 18) C zf_X11_154 0 rfl rfl dX11_reckons_18 ?_
      refine g_icmp_ge (pc := 21) C (tgt := 56) dX11_reckons_21 (by decide) hf (fun hf => ?_) (fun hf => ?_)
      · cases hf
        exact g_vret (pc := 56) C E (fun _ => 0) [0, 1, 2, 3, 4, 5, 6, 7, 8, 9] (by decide) rfl rfl (Nat.le_refl _) (Nat.le_refl _) dX11_reckons_56
      · refine g_aload_n (pc := 24) C 0 dX11_reckons_24 rfl rfl ?_
        refine g_aload_n (pc := 25) C 0 dX11_reckons_25 rfl rfl ?_
        refine g_get (pc := 26) C zf_X11_177 0 rfl rfl dX11_reckons_26 ?_
        refine g_aload_n (pc := 29) C 0 dX11_reckons_29 rfl rfl ?_
        refine g_iload_n (pc := 30) C 1 dX11_reckons_30 rfl rfl ?_
        refine g_aload_n (pc := 31) C 0 dX11_reckons_31 rfl rfl ?_
        refine g_get (pc := 32) C zf_X11_77 0 rfl rfl dX11_reckons_32 ?_
        refine g_iload_n (pc := 35) C 1 dX11_reckons_35 rfl rfl ?_
        refine g_zald (pc := 36) C (N := 62) 9 rfl rfl (Nat.le_of_ble_eq_true rfl) dX11_reckons_36 hf (fun hf => ?_)
        obtain ⟨r_37, hc_37, hf⟩ := Option.bind_eq_some_iff.mp hf
        refine g_callV (pc := 37) C hl0 (wr := [((aMo 15), .inl (ca 0, 60, .inl (zA mo_runFrom))), ((aMo 16), .inl (ca 0, 60, .inl (zA mo_runTo))), ((aMo 25), .inl (ca 0, 12, .inl (zA mo_maybe))), ((aMo 28), .inl (ca 0, 62, .inl (zA mo_dayRun))), ((aMo 29), .inl (ca 3, 62, .inl (zA mo_isLonger)))]) (k' := 0) (n' := 0) (ws' := fun _ => [((aMo 15), .inl (ca 0, 60, .inl (zA mo_runFrom))), ((aMo 16), .inl (ca 0, 60, .inl (zA mo_runTo))), ((aMo 25), .inl (ca 0, 12, .inl (zA mo_maybe))), ((aMo 28), .inl (ca 0, 62, .inl (zA mo_dayRun))), ((aMo 29), .inl (ca 3, 62, .inl (zA mo_isLonger))), ((aMo 0), .inr (11, [.ref (aMo 1), .int (zI mo_taped), .ref (aMo 3), .ref (aMo 4), .ref (aMo 5), .ref (aMo 6), .ref (aMo 7), .ref (aMo 8), .ref (aMo 9), .ref (aMo 10), .ref (aMo 11), .ref (aMo 12), .ref (aMo 13), .ref (aMo 14), .ref (aMo 15), .ref (aMo 16), .int (zI mo_size), .int (zI mo_runs), .ref (aMo 19), .ref (aMo 20), .ref (aMo 21), .int (zI mo_found), .int (zI mo_counted), .int (zI mo_isParted), .ref (aMo 25), .ref (aMo 26), .ref (aMo 27), .ref (aMo 28), .ref (aMo 29), .int (zI mo_maybes), .int (zI mo_days), .int (zI mo_over2), .int (zI mo_longer), .ref (aMo 34)])), ((aMo 3), .inl (ca 0, 11, .inl (zA mo_rules))), ((aMo 14), .inl (ca 0, 20161, .inl (zA mo_driven))), ((aMo 26), .inl (ca 0, 62, .inl (zA mo_dayFrom))), ((aMo 27), .inl (ca 0, 62, .inl (zA mo_dayTo)))]) (st' := [.int (zI r_37), .int (zI mo_over2), .ref (aMo 0)]) (kX11_overOf l D ca aMo mo_taped mo_rules mo_driven mo_size mo_runs mo_found mo_counted mo_isParted mo_dayFrom mo_dayTo mo_maybes mo_days mo_over2 mo_longer v2 (mo_isLonger v2.toNat) r_37 hc_37) wml_RX11_167 wim_X11_overOf wse_X11_overOf win_RX11 wco_X11_overOf (nA := 2) rfl (by decide +kernel)  ⟨(Nat.le_of_ble_eq_true rfl), (Nat.le_of_ble_eq_true rfl)⟩ (Nat.le_refl _) (Nat.le_refl _) rfl (by decide) dX11_reckons_37 0 11 rfl rfl rfl [0, 1, 2, 6, 7] [3, 4, 5, 8, 9] rfl rfl rfl (by decide) (by decide) (by decide) rfl rfl (fun _ => rfl) rfl (fun _ => ?_)
        refine g_iadd (pc := 40) C dX11_reckons_40 ?_
        refine g_aload_n (pc := 41) C 0 dX11_reckons_41 rfl rfl ?_
        refine g_iload_n (pc := 42) C 1 dX11_reckons_42 rfl rfl ?_
        obtain ⟨r_43, hc_43, hf⟩ := Option.bind_eq_some_iff.mp hf
        refine g_callV (pc := 43) C hl0 (wr := [((aMo 25), .inl (ca 0, 12, .inl (zA mo_maybe))), ((aMo 29), .inl (ca 3, 62, .inl (zA mo_isLonger))), ((aMo 14), .inl (ca 0, 20161, .inl (zA mo_driven))), ((aMo 27), .inl (ca 0, 62, .inl (zA mo_dayTo)))]) (k' := 0) (n' := 0) (ws' := fun _ => [((aMo 25), .inl (ca 0, 12, .inl (zA mo_maybe))), ((aMo 29), .inl (ca 3, 62, .inl (zA mo_isLonger))), ((aMo 14), .inl (ca 0, 20161, .inl (zA mo_driven))), ((aMo 27), .inl (ca 0, 62, .inl (zA mo_dayTo))), ((aMo 0), .inr (11, [.ref (aMo 1), .int (zI mo_taped), .ref (aMo 3), .ref (aMo 4), .ref (aMo 5), .ref (aMo 6), .ref (aMo 7), .ref (aMo 8), .ref (aMo 9), .ref (aMo 10), .ref (aMo 11), .ref (aMo 12), .ref (aMo 13), .ref (aMo 14), .ref (aMo 15), .ref (aMo 16), .int (zI mo_size), .int (zI mo_runs), .ref (aMo 19), .ref (aMo 20), .ref (aMo 21), .int (zI mo_found), .int (zI mo_counted), .int (zI mo_isParted), .ref (aMo 25), .ref (aMo 26), .ref (aMo 27), .ref (aMo 28), .ref (aMo 29), .int (zI mo_maybes), .int (zI mo_days), .int (zI mo_over2), .int (zI mo_longer), .ref (aMo 34)])), ((aMo 3), .inl (ca 0, 11, .inl (zA mo_rules))), ((aMo 15), .inl (ca 0, 60, .inl (zA mo_runFrom))), ((aMo 16), .inl (ca 0, 60, .inl (zA mo_runTo))), ((aMo 26), .inl (ca 0, 62, .inl (zA mo_dayFrom))), ((aMo 28), .inl (ca 0, 62, .inl (zA mo_dayRun)))]) (st' := [.int (zI r_43), .int (zI (mo_over2 + r_37)), .ref (aMo 0)]) (kX11_lateOf l D ca aMo mo_taped mo_rules mo_runFrom mo_runTo mo_size mo_runs mo_found mo_counted mo_isParted mo_dayFrom mo_dayRun mo_maybes mo_days mo_over2 mo_longer v2 r_43 hc_43) wml_RX11_180 wim_X11_lateOf wse_X11_lateOf win_RX11 wco_X11_lateOf (nA := 1) rfl (by decide +kernel)  ⟨(Nat.le_of_ble_eq_true rfl), (Nat.le_of_ble_eq_true rfl)⟩ (Nat.le_refl _) (Nat.le_refl _) rfl (by decide) dX11_reckons_43 5 11 rfl rfl rfl [5, 6, 0, 1, 8, 3] [2, 4, 7, 9] rfl rfl rfl (by decide) (by decide) (by decide) rfl rfl (fun _ => rfl) rfl (fun _ => ?_)
        refine g_iadd (pc := 46) C dX11_reckons_46 ?_
        refine g_put (pc := 47) C zf_X11_177 tyX11 tyX11_ok nmX11 (v := .int (zI ((mo_over2 + r_37) + r_43))) (ws' := [((aMo 25), .inl (ca 0, 12, .inl (zA mo_maybe))), ((aMo 29), .inl (ca 3, 62, .inl (zA mo_isLonger))), ((aMo 14), .inl (ca 0, 20161, .inl (zA mo_driven))), ((aMo 27), .inl (ca 0, 62, .inl (zA mo_dayTo))), ((aMo 0), .inr (11, [.ref (aMo 1), .int (zI mo_taped), .ref (aMo 3), .ref (aMo 4), .ref (aMo 5), .ref (aMo 6), .ref (aMo 7), .ref (aMo 8), .ref (aMo 9), .ref (aMo 10), .ref (aMo 11), .ref (aMo 12), .ref (aMo 13), .ref (aMo 14), .ref (aMo 15), .ref (aMo 16), .int (zI mo_size), .int (zI mo_runs), .ref (aMo 19), .ref (aMo 20), .ref (aMo 21), .int (zI mo_found), .int (zI mo_counted), .int (zI mo_isParted), .ref (aMo 25), .ref (aMo 26), .ref (aMo 27), .ref (aMo 28), .ref (aMo 29), .int (zI mo_maybes), .int (zI mo_days), .int (zI ((mo_over2 + r_37) + r_43)), .int (zI mo_longer), .ref (aMo 34)])), ((aMo 3), .inl (ca 0, 11, .inl (zA mo_rules))), ((aMo 15), .inl (ca 0, 60, .inl (zA mo_runFrom))), ((aMo 16), .inl (ca 0, 60, .inl (zA mo_runTo))), ((aMo 26), .inl (ca 0, 62, .inl (zA mo_dayFrom))), ((aMo 28), .inl (ca 0, 62, .inl (zA mo_dayRun)))]) 4 rfl rfl rfl rfl rfl (Nat.le_of_ble_eq_true rfl) rfl rfl dX11_reckons_47 ?_
        refine g_iinc (pc := 50) C 1 (lv' := [(2, .int (zI (v2 + 1))), (0, .ref (aMo 0))]) dX11_reckons_50 rfl (Nat.le_of_ble_eq_true rfl) rfl ?_
        refine g_goto (pc := 53) C (tgt := 16) dX11_reckons_53 (by decide) ?_
        refine g_sub [4, 5, 2, 6, 7, 0, 8, 3, 9, 1] [1, 0] (by decide) rfl rfl rfl ?_
        exact ih16 _ _ hf
  unfold fX11_reckons at hf
  refine g_aload_n (pc := 0) C 0 dX11_reckons_0 rfl rfl ?_
  refine g_iload_n (pc := 1) C 1 dX11_reckons_1 rfl rfl ?_
  obtain ⟨⟨mo_dayFrom_2, mo_dayTo_2, mo_dayRun_2, mo_days_2⟩, hc_2, hf⟩ := Option.bind_eq_some_iff.mp hf
  dsimp only at hf
  refine g_callV (pc := 2) C hl0 (wr := [((aMo 14), .inl (ca 0, 20161, .inl (zA mo_driven))), ((aMo 29), .inl (ca 3, 62, .inl (zA mo_isLonger)))]) (k' := 0) (n' := 0) (ws' := fun _ => [((aMo 14), .inl (ca 0, 20161, .inl (zA mo_driven))), ((aMo 29), .inl (ca 3, 62, .inl (zA mo_isLonger))), ((aMo 0), .inr (11, [.ref (aMo 1), .int (zI mo_taped), .ref (aMo 3), .ref (aMo 4), .ref (aMo 5), .ref (aMo 6), .ref (aMo 7), .ref (aMo 8), .ref (aMo 9), .ref (aMo 10), .ref (aMo 11), .ref (aMo 12), .ref (aMo 13), .ref (aMo 14), .ref (aMo 15), .ref (aMo 16), .int (zI mo_size), .int (zI mo_runs), .ref (aMo 19), .ref (aMo 20), .ref (aMo 21), .int (zI mo_found), .int (zI mo_counted), .int (zI mo_isParted), .ref (aMo 25), .ref (aMo 26), .ref (aMo 27), .ref (aMo 28), .ref (aMo 29), .int (zI mo_maybes), .int (zI mo_days_2), .int (zI mo_over2), .int (zI mo_longer), .ref (aMo 34)])), ((aMo 3), .inl (ca 0, 11, .inl (zA mo_rules))), ((aMo 15), .inl (ca 0, 60, .inl (zA mo_runFrom))), ((aMo 16), .inl (ca 0, 60, .inl (zA mo_runTo))), ((aMo 25), .inl (ca 0, 12, .inl (zA mo_maybe))), ((aMo 26), .inl (ca 0, 62, .inl (zA mo_dayFrom_2))), ((aMo 27), .inl (ca 0, 62, .inl (zA mo_dayTo_2))), ((aMo 28), .inl (ca 0, 62, .inl (zA mo_dayRun_2)))]) (st' := []) (kX11_parts l D ca aMo mo_taped mo_rules mo_runFrom mo_runTo mo_size mo_runs mo_found mo_counted mo_isParted mo_maybe mo_dayFrom mo_dayTo mo_dayRun mo_maybes mo_days mo_over2 mo_longer v1 mo_dayFrom_2 mo_dayTo_2 mo_dayRun_2 mo_days_2 hc_2) wml_RX11_171 wim_X11_parts wse_X11_parts win_RX11 wco_X11_parts (nA := 1) rfl (by decide +kernel)  ⟨(Nat.le_of_ble_eq_true rfl), (Nat.le_of_ble_eq_true rfl)⟩ (Nat.le_refl _) (Nat.le_refl _) rfl (by decide) dX11_reckons_2 0 11 rfl rfl rfl [0, 1, 3, 4, 5, 6, 7, 8] [2, 9] rfl rfl rfl (by decide) (by decide) (by decide) rfl rfl (fun _ => rfl) rfl (fun _ => ?_)
  refine g_aload_n (pc := 5) C 0 dX11_reckons_5 rfl rfl ?_
  obtain ⟨⟨mo_isLonger_6, mo_longer_6⟩, hc_6, hf⟩ := Option.bind_eq_some_iff.mp hf
  dsimp only at hf
  refine g_callV (pc := 6) C hl0 (wr := [((aMo 15), .inl (ca 0, 60, .inl (zA mo_runFrom))), ((aMo 16), .inl (ca 0, 60, .inl (zA mo_runTo))), ((aMo 25), .inl (ca 0, 12, .inl (zA mo_maybe))), ((aMo 28), .inl (ca 0, 62, .inl (zA mo_dayRun_2)))]) (k' := 0) (n' := 0) (ws' := fun _ => [((aMo 15), .inl (ca 0, 60, .inl (zA mo_runFrom))), ((aMo 16), .inl (ca 0, 60, .inl (zA mo_runTo))), ((aMo 25), .inl (ca 0, 12, .inl (zA mo_maybe))), ((aMo 28), .inl (ca 0, 62, .inl (zA mo_dayRun_2))), ((aMo 0), .inr (11, [.ref (aMo 1), .int (zI mo_taped), .ref (aMo 3), .ref (aMo 4), .ref (aMo 5), .ref (aMo 6), .ref (aMo 7), .ref (aMo 8), .ref (aMo 9), .ref (aMo 10), .ref (aMo 11), .ref (aMo 12), .ref (aMo 13), .ref (aMo 14), .ref (aMo 15), .ref (aMo 16), .int (zI mo_size), .int (zI mo_runs), .ref (aMo 19), .ref (aMo 20), .ref (aMo 21), .int (zI mo_found), .int (zI mo_counted), .int (zI mo_isParted), .ref (aMo 25), .ref (aMo 26), .ref (aMo 27), .ref (aMo 28), .ref (aMo 29), .int (zI mo_maybes), .int (zI mo_days_2), .int (zI mo_over2), .int (zI mo_longer_6), .ref (aMo 34)])), ((aMo 3), .inl (ca 0, 11, .inl (zA mo_rules))), ((aMo 14), .inl (ca 0, 20161, .inl (zA mo_driven))), ((aMo 26), .inl (ca 0, 62, .inl (zA mo_dayFrom_2))), ((aMo 27), .inl (ca 0, 62, .inl (zA mo_dayTo_2))), ((aMo 29), .inl (ca 3, 62, .inl (zA mo_isLonger_6)))]) (st' := []) (kX11_extendsDays l D ca aMo mo_taped mo_rules mo_driven mo_size mo_runs mo_found mo_counted mo_isParted mo_dayFrom_2 mo_dayTo_2 mo_isLonger mo_maybes mo_days_2 mo_over2 mo_longer mo_isLonger_6 mo_longer_6 hc_6) wml_RX11_174 wim_X11_extendsDays wse_X11_extendsDays win_RX11 wco_X11_extendsDays (nA := 0) rfl (by decide +kernel)  ⟨(Nat.le_of_ble_eq_true rfl), (Nat.le_of_ble_eq_true rfl)⟩ (Nat.le_refl _) (Nat.le_refl _) rfl (by decide) dX11_reckons_6 2 11 rfl rfl rfl [2, 3, 0, 7, 8, 1] [4, 5, 6, 9] rfl rfl rfl (by decide) (by decide) (by decide) rfl rfl (fun _ => rfl) rfl (fun _ => ?_)
  refine g_aload_n (pc := 9) C 0 dX11_reckons_9 rfl rfl ?_
  refine g_iconst (pc := 10) C dX11_reckons_10 ?_
  refine g_put (pc := 11) C zf_X11_177 tyX11 tyX11_ok nmX11 (v := .int (zI 0)) (ws' := [((aMo 15), .inl (ca 0, 60, .inl (zA mo_runFrom))), ((aMo 16), .inl (ca 0, 60, .inl (zA mo_runTo))), ((aMo 25), .inl (ca 0, 12, .inl (zA mo_maybe))), ((aMo 28), .inl (ca 0, 62, .inl (zA mo_dayRun_2))), ((aMo 0), .inr (11, [.ref (aMo 1), .int (zI mo_taped), .ref (aMo 3), .ref (aMo 4), .ref (aMo 5), .ref (aMo 6), .ref (aMo 7), .ref (aMo 8), .ref (aMo 9), .ref (aMo 10), .ref (aMo 11), .ref (aMo 12), .ref (aMo 13), .ref (aMo 14), .ref (aMo 15), .ref (aMo 16), .int (zI mo_size), .int (zI mo_runs), .ref (aMo 19), .ref (aMo 20), .ref (aMo 21), .int (zI mo_found), .int (zI mo_counted), .int (zI mo_isParted), .ref (aMo 25), .ref (aMo 26), .ref (aMo 27), .ref (aMo 28), .ref (aMo 29), .int (zI mo_maybes), .int (zI mo_days_2), .int (zI 0), .int (zI mo_longer_6), .ref (aMo 34)])), ((aMo 3), .inl (ca 0, 11, .inl (zA mo_rules))), ((aMo 14), .inl (ca 0, 20161, .inl (zA mo_driven))), ((aMo 26), .inl (ca 0, 62, .inl (zA mo_dayFrom_2))), ((aMo 27), .inl (ca 0, 62, .inl (zA mo_dayTo_2))), ((aMo 29), .inl (ca 3, 62, .inl (zA mo_isLonger_6)))]) 4 rfl rfl rfl rfl rfl (Nat.le_of_ble_eq_true rfl) rfl rfl dX11_reckons_11 ?_
  refine g_iconst (pc := 14) C dX11_reckons_14 ?_
  refine g_istore_n (pc := 15) C (lv' := [(2, .int (zI 0)), (0, .ref (aMo 0)), (1, .int (zI v1))]) dX11_reckons_15 rfl (Nat.le_of_ble_eq_true rfl) rfl ?_
  refine g_sub [4, 5, 6, 0, 1, 2, 7, 8, 3, 9] [1, 0] (by decide) rfl rfl rfl ?_
  exact H16 _ _ _ _ _ _ _ _ _ hf
set_option maxRecDepth 100000 in
theorem kX11_mayBe (l : Launch) (D : va_G) (ca : Nat → ClassId) (aMo : Nat → Nat) (mo_taped : Int) (mo_rules : Nat → Int) (mo_runTo : Nat → Int) (mo_size : Int) (mo_runs : Int) (mo_found : Int) (mo_counted : Int) (mo_isParted : Int) (mo_maybe : Nat → Int) (mo_maybes : Int) (mo_days : Int) (mo_over2 : Int) (mo_longer : Int) (v1 : Int) (r_o : Int)
    (hf : fX11_mayBe v1 mo_rules mo_runTo mo_maybe mo_maybes = some r_o) : Zc l D ca yX11_mayBe cX11_mayBe 5 (some .boolean) { frames := 0, cells := 0, slots := 0, locals := 0 } [.ref (aMo 0), .int (zI v1)] [((aMo 0), .inr (11, [.ref (aMo 1), .int (zI mo_taped), .ref (aMo 3), .ref (aMo 4), .ref (aMo 5), .ref (aMo 6), .ref (aMo 7), .ref (aMo 8), .ref (aMo 9), .ref (aMo 10), .ref (aMo 11), .ref (aMo 12), .ref (aMo 13), .ref (aMo 14), .ref (aMo 15), .ref (aMo 16), .int (zI mo_size), .int (zI mo_runs), .ref (aMo 19), .ref (aMo 20), .ref (aMo 21), .int (zI mo_found), .int (zI mo_counted), .int (zI mo_isParted), .ref (aMo 25), .ref (aMo 26), .ref (aMo 27), .ref (aMo 28), .ref (aMo 29), .int (zI mo_maybes), .int (zI mo_days), .int (zI mo_over2), .int (zI mo_longer), .ref (aMo 34)])), ((aMo 3), .inl (ca 0, 11, .inl (zA mo_rules))), ((aMo 16), .inl (ca 0, 60, .inl (zA mo_runTo))), ((aMo 25), .inl (ca 0, 12, .inl (zA mo_maybe)))] (some (.int (zI r_o))) (fun _ => [((aMo 0), .inr (11, [.ref (aMo 1), .int (zI mo_taped), .ref (aMo 3), .ref (aMo 4), .ref (aMo 5), .ref (aMo 6), .ref (aMo 7), .ref (aMo 8), .ref (aMo 9), .ref (aMo 10), .ref (aMo 11), .ref (aMo 12), .ref (aMo 13), .ref (aMo 14), .ref (aMo 15), .ref (aMo 16), .int (zI mo_size), .int (zI mo_runs), .ref (aMo 19), .ref (aMo 20), .ref (aMo 21), .int (zI mo_found), .int (zI mo_counted), .int (zI mo_isParted), .ref (aMo 25), .ref (aMo 26), .ref (aMo 27), .ref (aMo 28), .ref (aMo 29), .int (zI mo_maybes), .int (zI mo_days), .int (zI mo_over2), .int (zI mo_longer), .ref (aMo 34)])), ((aMo 3), .inl (ca 0, 11, .inl (zA mo_rules))), ((aMo 16), .inl (ca 0, 60, .inl (zA mo_runTo))), ((aMo 25), .inl (ca 0, 12, .inl (zA mo_maybe)))]) := by
  refine ctr_of (lv := [(0, .ref (aMo 0)), (1, .int (zI v1))]) (by decide +kernel) (Nat.le_of_ble_eq_true rfl) rfl (fun Γ hl0 C E hnm => ?_)
  have H2 : ∀  (n2 : Nat) (v2 : Int), zlp (fX11_mayBe_2 v1 mo_rules mo_runTo mo_maybe mo_maybes) n2 v2 = some r_o → Zd D Γ 0 0 [((aMo 0), .inr (11, [.ref (aMo 1), .int (zI mo_taped), .ref (aMo 3), .ref (aMo 4), .ref (aMo 5), .ref (aMo 6), .ref (aMo 7), .ref (aMo 8), .ref (aMo 9), .ref (aMo 10), .ref (aMo 11), .ref (aMo 12), .ref (aMo 13), .ref (aMo 14), .ref (aMo 15), .ref (aMo 16), .int (zI mo_size), .int (zI mo_runs), .ref (aMo 19), .ref (aMo 20), .ref (aMo 21), .int (zI mo_found), .int (zI mo_counted), .int (zI mo_isParted), .ref (aMo 25), .ref (aMo 26), .ref (aMo 27), .ref (aMo 28), .ref (aMo 29), .int (zI mo_maybes), .int (zI mo_days), .int (zI mo_over2), .int (zI mo_longer), .ref (aMo 34)])), ((aMo 3), .inl (ca 0, 11, .inl (zA mo_rules))), ((aMo 16), .inl (ca 0, 60, .inl (zA mo_runTo))), ((aMo 25), .inl (ca 0, 12, .inl (zA mo_maybe)))] 2 [(0, .ref (aMo 0)), (1, .int (zI v1)), (2, .int (zI v2))] [] := by
    intro n2
    induction n2 with
    | zero =>
      intro v2 hf
      exact zno hf
    | succ n2 ih2 =>
      have H12 : ∀ (v2 : Int) (n12 : Nat) (v3 : Int) (v4 : Int), zlp (fX11_mayBe_12 (zlp (fX11_mayBe_2 v1 mo_rules mo_runTo mo_maybe mo_maybes) n2) v1 v2 mo_rules mo_runTo mo_maybe mo_maybes) n12 (v3, v4) = some r_o → Zd D Γ 0 0 [((aMo 0), .inr (11, [.ref (aMo 1), .int (zI mo_taped), .ref (aMo 3), .ref (aMo 4), .ref (aMo 5), .ref (aMo 6), .ref (aMo 7), .ref (aMo 8), .ref (aMo 9), .ref (aMo 10), .ref (aMo 11), .ref (aMo 12), .ref (aMo 13), .ref (aMo 14), .ref (aMo 15), .ref (aMo 16), .int (zI mo_size), .int (zI mo_runs), .ref (aMo 19), .ref (aMo 20), .ref (aMo 21), .int (zI mo_found), .int (zI mo_counted), .int (zI mo_isParted), .ref (aMo 25), .ref (aMo 26), .ref (aMo 27), .ref (aMo 28), .ref (aMo 29), .int (zI mo_maybes), .int (zI mo_days), .int (zI mo_over2), .int (zI mo_longer), .ref (aMo 34)])), ((aMo 3), .inl (ca 0, 11, .inl (zA mo_rules))), ((aMo 16), .inl (ca 0, 60, .inl (zA mo_runTo))), ((aMo 25), .inl (ca 0, 12, .inl (zA mo_maybe)))] 12 [(0, .ref (aMo 0)), (1, .int (zI v1)), (2, .int (zI v2)), (3, .int (zI v3)), (4, .int (zI v4))] [] := by
        intro v2
        intro n12
        induction n12 with
        | zero =>
          intro v3 v4 hf
          exact zno hf
        | succ n12 ih12 =>
          have H59 : ∀ (v2 : Int) (v4 : Int) (s0 : Int) (s1 : Int), fX11_mayBe_59 (zlp (fX11_mayBe_12 (zlp (fX11_mayBe_2 v1 mo_rules mo_runTo mo_maybe mo_maybes) n2) v1 v2 mo_rules mo_runTo mo_maybe mo_maybes) n12) v4 s0 s1 = some r_o → Zd D Γ 0 0 [((aMo 0), .inr (11, [.ref (aMo 1), .int (zI mo_taped), .ref (aMo 3), .ref (aMo 4), .ref (aMo 5), .ref (aMo 6), .ref (aMo 7), .ref (aMo 8), .ref (aMo 9), .ref (aMo 10), .ref (aMo 11), .ref (aMo 12), .ref (aMo 13), .ref (aMo 14), .ref (aMo 15), .ref (aMo 16), .int (zI mo_size), .int (zI mo_runs), .ref (aMo 19), .ref (aMo 20), .ref (aMo 21), .int (zI mo_found), .int (zI mo_counted), .int (zI mo_isParted), .ref (aMo 25), .ref (aMo 26), .ref (aMo 27), .ref (aMo 28), .ref (aMo 29), .int (zI mo_maybes), .int (zI mo_days), .int (zI mo_over2), .int (zI mo_longer), .ref (aMo 34)])), ((aMo 3), .inl (ca 0, 11, .inl (zA mo_rules))), ((aMo 16), .inl (ca 0, 60, .inl (zA mo_runTo))), ((aMo 25), .inl (ca 0, 12, .inl (zA mo_maybe)))] 59 [(0, .ref (aMo 0)), (1, .int (zI v1)), (2, .int (zI v2)), (4, .int (zI v4))] [.int (zI s1), .int (zI s0)] := by
            intro v2 v4 s0 s1 hf
            unfold fX11_mayBe_59 at hf
            refine g_iadd (pc := 59) C dX11_mayBe_59 ?_
            refine g_istore_n (pc := 60) C (lv' := [(3, .int (zI (s0 + s1))), (0, .ref (aMo 0)), (1, .int (zI v1)), (2, .int (zI v2)), (4, .int (zI v4))]) dX11_mayBe_60 rfl (Nat.le_of_ble_eq_true rfl) rfl ?_
            refine g_iinc (pc := 61) C 4 (lv' := [(4, .int (zI (v4 + 1))), (3, .int (zI (s0 + s1))), (0, .ref (aMo 0)), (1, .int (zI v1)), (2, .int (zI v2))]) dX11_mayBe_61 rfl (Nat.le_of_ble_eq_true rfl) rfl ?_
            refine g_goto (pc := 64) C (tgt := 12) dX11_mayBe_64 (by decide) ?_
            refine g_sub [0, 1, 2, 3] [2, 3, 4, 1, 0] (by decide) rfl rfl rfl ?_
            exact ih12 _ _ hf
          have H58 : ∀ (v2 : Int) (v4 : Int) (s0 : Int), fX11_mayBe_58 (zlp (fX11_mayBe_12 (zlp (fX11_mayBe_2 v1 mo_rules mo_runTo mo_maybe mo_maybes) n2) v1 v2 mo_rules mo_runTo mo_maybe mo_maybes) n12) v4 s0 = some r_o → Zd D Γ 0 0 [((aMo 0), .inr (11, [.ref (aMo 1), .int (zI mo_taped), .ref (aMo 3), .ref (aMo 4), .ref (aMo 5), .ref (aMo 6), .ref (aMo 7), .ref (aMo 8), .ref (aMo 9), .ref (aMo 10), .ref (aMo 11), .ref (aMo 12), .ref (aMo 13), .ref (aMo 14), .ref (aMo 15), .ref (aMo 16), .int (zI mo_size), .int (zI mo_runs), .ref (aMo 19), .ref (aMo 20), .ref (aMo 21), .int (zI mo_found), .int (zI mo_counted), .int (zI mo_isParted), .ref (aMo 25), .ref (aMo 26), .ref (aMo 27), .ref (aMo 28), .ref (aMo 29), .int (zI mo_maybes), .int (zI mo_days), .int (zI mo_over2), .int (zI mo_longer), .ref (aMo 34)])), ((aMo 3), .inl (ca 0, 11, .inl (zA mo_rules))), ((aMo 16), .inl (ca 0, 60, .inl (zA mo_runTo))), ((aMo 25), .inl (ca 0, 12, .inl (zA mo_maybe)))] 58 [(0, .ref (aMo 0)), (1, .int (zI v1)), (2, .int (zI v2)), (4, .int (zI v4))] [.int (zI s0)] := by
            intro v2 v4 s0 hf
            unfold fX11_mayBe_58 at hf
            refine g_iconst (pc := 58) C dX11_mayBe_58 ?_
            exact H59 _ _ _ _ hf
          intro v3 v4 hf
          rw [zlp_s] at hf
          unfold fX11_mayBe_12 at hf
          dsimp only at hf
          refine g_iload (pc := 12) C 4 dX11_mayBe_12 rfl ?_
          refine g_aload_n (pc := 14) C 0 dX11_mayBe_14 rfl rfl ?_
          refine g_get (pc := 15) C zf_X11_151 0 rfl rfl dX11_mayBe_15 ?_
          refine g_icmp_ge (pc := 18) C (tgt := 67) dX11_mayBe_18 (by decide) hf (fun hf => ?_) (fun hf => ?_)
          · refine g_iload_n (pc := 67) C 3 dX11_mayBe_67 rfl rfl ?_
            refine g_aload_n (pc := 68) C 0 dX11_mayBe_68 rfl rfl ?_
            refine g_get (pc := 69) C zf_X11_13 0 rfl rfl dX11_mayBe_69 ?_
            refine g_bipush (pc := 72) C dX11_mayBe_72 (by decide) ?_
            refine g_ialdK (pc := 74) C 9 1 rfl rfl (Nat.le_of_ble_eq_true rfl) (Nat.le_of_ble_eq_true rfl) dX11_mayBe_74 ?_
            refine g_icmp_le (pc := 75) C (tgt := 80) dX11_mayBe_75 (by decide) hf (fun hf => ?_) (fun hf => ?_)
            · refine g_iinc (pc := 80) C 2 (lv' := [(2, .int (zI (v2 + 1))), (0, .ref (aMo 0)), (1, .int (zI v1)), (3, .int (zI v3)), (4, .int (zI v4))]) dX11_mayBe_80 rfl (Nat.le_of_ble_eq_true rfl) rfl ?_
              refine g_goto (pc := 83) C (tgt := 2) dX11_mayBe_83 (by decide) ?_
              refine g_sub [0, 1, 2, 3] [1, 2, 0] (by decide) rfl rfl rfl ?_
              exact ih2 _ hf
            · refine g_iconst (pc := 78) C dX11_mayBe_78 ?_
              cases hf
              exact g_zret (pc := 79) C E (by decide) (fun _ => 0) [0, 1, 2, 3] (by decide) rfl rfl (Nat.le_refl _) (Nat.le_refl _) dX11_mayBe_79
          · refine g_iload_n (pc := 21) C 3 dX11_mayBe_21 rfl rfl ?_
            refine g_iload_n (pc := 22) C 1 dX11_mayBe_22 rfl rfl ?_
            refine g_iload (pc := 23) C 4 dX11_mayBe_23 rfl ?_
            refine g_ishr (pc := 25) C dX11_mayBe_25 ?_
            refine g_iconst (pc := 26) C dX11_mayBe_26 ?_
            refine g_iand (pc := 27) C dX11_mayBe_27 ?_
            refine g_iconst (pc := 28) C dX11_mayBe_28 ?_
            refine g_icmp_ner (pc := 29) C (tgt := 58) dX11_mayBe_29 (by decide) (by decide) hf (fun hf => ?_) (fun hf => ?_)
            · refine g_sub [0, 1, 2, 3] [0, 1, 2, 4] (by decide) rfl rfl rfl ?_
              exact H58 _ _ _ hf
            · refine g_aload_n (pc := 32) C 0 dX11_mayBe_32 rfl rfl ?_
              refine g_get (pc := 33) C zf_X11_53 0 rfl rfl dX11_mayBe_33 ?_
              refine g_aload_n (pc := 36) C 0 dX11_mayBe_36 rfl rfl ?_
              refine g_get (pc := 37) C zf_X11_65 0 rfl rfl dX11_mayBe_37 ?_
              refine g_iload (pc := 40) C 4 dX11_mayBe_40 rfl ?_
              refine g_iald (pc := 42) C (N := 12) 3 rfl rfl (Nat.le_of_ble_eq_true rfl) dX11_mayBe_42 hf (fun hf => ?_)
              refine g_iald (pc := 43) C (N := 60) 2 rfl rfl (Nat.le_of_ble_eq_true rfl) dX11_mayBe_43 hf (fun hf => ?_)
              refine g_iconst (pc := 44) C dX11_mayBe_44 ?_
              refine g_isub (pc := 45) C dX11_mayBe_45 ?_
              refine g_sipush (pc := 46) C dX11_mayBe_46 (by decide) ?_
              refine g_idiv (pc := 49) C dX11_mayBe_49 (by decide) hf (fun hf => ?_)
              refine g_iload_n (pc := 50) C 2 dX11_mayBe_50 rfl rfl ?_
              refine g_icmp_ne (pc := 51) C (tgt := 58) dX11_mayBe_51 (by decide) hf (fun hf => ?_) (fun hf => ?_)
              · refine g_sub [0, 1, 2, 3] [0, 1, 2, 4] (by decide) rfl rfl rfl ?_
                exact H58 _ _ _ hf
              · refine g_iconst (pc := 54) C dX11_mayBe_54 ?_
                refine g_goto (pc := 55) C (tgt := 59) dX11_mayBe_55 (by decide) ?_
                refine g_sub [0, 1, 2, 3] [0, 1, 2, 4] (by decide) rfl rfl rfl ?_
                exact H59 _ _ _ _ hf
      intro v2 hf
      rw [zlp_s] at hf
      unfold fX11_mayBe_2 at hf
      refine g_iload_n (pc := 2) C 2 dX11_mayBe_2 rfl rfl ?_
      refine g_iconst (pc := 3) C dX11_mayBe_3 ?_
      refine g_icmp_ger (pc := 4) C (tgt := 86) dX11_mayBe_4 (by decide) (by decide) hf (fun hf => ?_) (fun hf => ?_)
      · refine g_iconst (pc := 86) C dX11_mayBe_86 ?_
        cases hf
        exact g_zret (pc := 87) C E (by decide) (fun _ => 0) [0, 1, 2, 3] (by decide) rfl rfl (Nat.le_refl _) (Nat.le_refl _) dX11_mayBe_87
      · refine g_iconst (pc := 7) C dX11_mayBe_7 ?_
        refine g_istore_n (pc := 8) C (lv' := [(3, .int (zI 0)), (0, .ref (aMo 0)), (1, .int (zI v1)), (2, .int (zI v2))]) dX11_mayBe_8 rfl (Nat.le_of_ble_eq_true rfl) rfl ?_
        refine g_iconst (pc := 9) C dX11_mayBe_9 ?_
        refine g_istore (pc := 10) C (lv' := [(4, .int (zI 0)), (3, .int (zI 0)), (0, .ref (aMo 0)), (1, .int (zI v1)), (2, .int (zI v2))]) dX11_mayBe_10 (Nat.le_of_ble_eq_true rfl) rfl ?_
        refine g_sub [0, 1, 2, 3] [2, 3, 4, 1, 0] (by decide) rfl rfl rfl ?_
        exact H12 _ _ _ _ hf
  unfold fX11_mayBe at hf
  refine g_iconst (pc := 0) C dX11_mayBe_0 ?_
  refine g_istore_n (pc := 1) C (lv' := [(2, .int (zI 0)), (0, .ref (aMo 0)), (1, .int (zI v1))]) dX11_mayBe_1 rfl (Nat.le_of_ble_eq_true rfl) rfl ?_
  refine g_sub [0, 1, 2, 3] [1, 2, 0] (by decide) rfl rfl rfl ?_
  exact H2 _ _ hf
set_option maxRecDepth 100000 in
theorem kX11_isEarlier (l : Launch) (D : va_G) (ca : Nat → ClassId)   (v0 : Int) (v1 : Int) (r_o : Int)
    (hf : fX11_isEarlier v0 v1 = some r_o) : Zc l D ca yX11_isEarlier cX11_isEarlier 3 (some .boolean) { frames := 0, cells := 0, slots := 0, locals := 0 } [.int (zI v0), .int (zI v1)] [] (some (.int (zI r_o))) (fun _ => []) := by
  refine ctr_of (lv := [(0, .int (zI v0)), (1, .int (zI v1))]) (by decide +kernel) (Nat.le_of_ble_eq_true rfl) rfl (fun Γ hl0 C E hnm => ?_)
  have H47 : fX11_isEarlier_47 = some r_o → Zd D Γ 0 0 [] 47 [] [] := by
    intro  hf
    unfold fX11_isEarlier_47 at hf
    refine g_iconst (pc := 47) C dX11_isEarlier_47 ?_
    cases hf
    exact g_zret (pc := 48) C E (by decide) (fun _ => 0) [] (by decide) rfl rfl (Nat.le_refl _) (Nat.le_refl _) dX11_isEarlier_48
  have H28 : ∀ (v2 : Int), fX11_isEarlier_28 v0 v2 = some r_o → Zd D Γ 0 0 [] 28 [(0, .int (zI v0)), (2, .int (zI v2))] [] := by
    intro v2 hf
    unfold fX11_isEarlier_28 at hf
    refine g_iload_n (pc := 28) C 1 dX11_isEarlier_28 rfl rfl ?_
    refine g_bipush (pc := 29) C dX11_isEarlier_29 (by decide) ?_
    refine g_icmp_ger (pc := 31) C (tgt := 47) dX11_isEarlier_31 (by decide) (by decide) hf (fun hf => ?_) (fun hf => ?_)
    · refine g_sub [] [] (by decide) rfl rfl rfl ?_
      exact H47  hf
    · refine g_iload_n (pc := 34) C 0 dX11_isEarlier_34 rfl rfl ?_
      refine g_iload_n (pc := 35) C 1 dX11_isEarlier_35 rfl rfl ?_
      refine g_ishr (pc := 36) C dX11_isEarlier_36 ?_
      refine g_iconst (pc := 37) C dX11_isEarlier_37 ?_
      refine g_iand (pc := 38) C dX11_isEarlier_38 ?_
      refine g_iconst (pc := 39) C dX11_isEarlier_39 ?_
      refine g_icmp_ner (pc := 40) C (tgt := 47) dX11_isEarlier_40 (by decide) (by decide) hf (fun hf => ?_) (fun hf => ?_)
      · refine g_sub [] [] (by decide) rfl rfl rfl ?_
        exact H47  hf
      · refine g_iconst (pc := 43) C dX11_isEarlier_43 ?_
        refine g_goto (pc := 44) C (tgt := 48) dX11_isEarlier_44 (by decide) ?_
        cases hf
        exact g_zret (pc := 48) C E (by decide) (fun _ => 0) [] (by decide) rfl rfl (Nat.le_refl _) (Nat.le_refl _) dX11_isEarlier_48
  have H2 : ∀  (n2 : Nat) (v2 : Int), zlp (fX11_isEarlier_2 v0 v1) n2 v2 = some r_o → Zd D Γ 0 0 [] 2 [(0, .int (zI v0)), (1, .int (zI v1)), (2, .int (zI v2))] [] := by
    intro n2
    induction n2 with
    | zero =>
      intro v2 hf
      exact zno hf
    | succ n2 ih2 =>
      intro v2 hf
      rw [zlp_s] at hf
      unfold fX11_isEarlier_2 at hf
      refine g_iload_n (pc := 2) C 2 dX11_isEarlier_2 rfl rfl ?_
      refine g_bipush (pc := 3) C dX11_isEarlier_3 (by decide) ?_
      refine g_icmp_ger (pc := 5) C (tgt := 28) dX11_isEarlier_5 (by decide) (by decide) hf (fun hf => ?_) (fun hf => ?_)
      · refine g_sub [] [0, 2] (by decide) rfl rfl rfl ?_
        exact H28 _ hf
      · refine g_iload_n (pc := 8) C 0 dX11_isEarlier_8 rfl rfl ?_
        refine g_iload_n (pc := 9) C 2 dX11_isEarlier_9 rfl rfl ?_
        refine g_ishr (pc := 10) C dX11_isEarlier_10 ?_
        refine g_iconst (pc := 11) C dX11_isEarlier_11 ?_
        refine g_iand (pc := 12) C dX11_isEarlier_12 ?_
        refine g_iload_n (pc := 13) C 1 dX11_isEarlier_13 rfl rfl ?_
        refine g_iload_n (pc := 14) C 2 dX11_isEarlier_14 rfl rfl ?_
        refine g_ishr (pc := 15) C dX11_isEarlier_15 ?_
        refine g_iconst (pc := 16) C dX11_isEarlier_16 ?_
        refine g_iand (pc := 17) C dX11_isEarlier_17 ?_
        refine g_icmp_ne (pc := 18) C (tgt := 28) dX11_isEarlier_18 (by decide) hf (fun hf => ?_) (fun hf => ?_)
        · refine g_sub [] [0, 2] (by decide) rfl rfl rfl ?_
          exact H28 _ hf
        · refine g_iload_n (pc := 21) C 2 dX11_isEarlier_21 rfl rfl ?_
          refine g_iconst (pc := 22) C dX11_isEarlier_22 ?_
          refine g_iadd (pc := 23) C dX11_isEarlier_23 ?_
          refine g_istore_n (pc := 24) C (lv' := [(2, .int (zI (v2 + 1))), (0, .int (zI v0)), (1, .int (zI v1))]) dX11_isEarlier_24 rfl (Nat.le_of_ble_eq_true rfl) rfl ?_
          refine g_goto (pc := 25) C (tgt := 2) dX11_isEarlier_25 (by decide) ?_
          refine g_sub [] [1, 2, 0] (by decide) rfl rfl rfl ?_
          exact ih2 _ hf
  unfold fX11_isEarlier at hf
  refine g_iconst (pc := 0) C dX11_isEarlier_0 ?_
  refine g_istore_n (pc := 1) C (lv' := [(2, .int (zI 0)), (0, .int (zI v0)), (1, .int (zI v1))]) dX11_isEarlier_1 rfl (Nat.le_of_ble_eq_true rfl) rfl ?_
  refine g_sub [] [1, 2, 0] (by decide) rfl rfl rfl ?_
  exact H2 _ _ hf
set_option maxRecDepth 100000 in
theorem kX11_chooses (l : Launch) (D : va_G) (ca : Nat → ClassId) (aMo : Nat → Nat) (mo_taped : Int) (mo_rules : Nat → Int) (mo_driven : Nat → Int) (mo_runFrom : Nat → Int) (mo_runTo : Nat → Int) (mo_size : Int) (mo_runs : Int) (mo_found : Int) (mo_counted : Int) (mo_isParted : Int) (mo_maybe : Nat → Int) (mo_dayFrom : Nat → Int) (mo_dayTo : Nat → Int) (mo_dayRun : Nat → Int) (mo_isLonger : Nat → Int) (mo_maybes : Int) (mo_days : Int) (mo_over2 : Int) (mo_longer : Int)  (mo_maybe_o : Nat → Int) (mo_dayFrom_o : Nat → Int) (mo_dayTo_o : Nat → Int) (mo_dayRun_o : Nat → Int) (mo_isLonger_o : Nat → Int) (mo_maybes_o : Int) (mo_days_o : Int) (mo_over2_o : Int) (mo_longer_o : Int)
    (hf : fX11_chooses mo_rules mo_driven mo_runFrom mo_runTo mo_size mo_runs mo_maybe mo_dayFrom mo_dayTo mo_dayRun mo_isLonger mo_maybes mo_days mo_over2 mo_longer = some (mo_maybe_o, mo_dayFrom_o, mo_dayTo_o, mo_dayRun_o, mo_isLonger_o, mo_maybes_o, mo_days_o, mo_over2_o, mo_longer_o)) : Zc l D ca yX11_chooses cX11_chooses 6 none { frames := 4, cells := 0, slots := 0, locals := 94 } [.ref (aMo 0)] [((aMo 0), .inr (11, [.ref (aMo 1), .int (zI mo_taped), .ref (aMo 3), .ref (aMo 4), .ref (aMo 5), .ref (aMo 6), .ref (aMo 7), .ref (aMo 8), .ref (aMo 9), .ref (aMo 10), .ref (aMo 11), .ref (aMo 12), .ref (aMo 13), .ref (aMo 14), .ref (aMo 15), .ref (aMo 16), .int (zI mo_size), .int (zI mo_runs), .ref (aMo 19), .ref (aMo 20), .ref (aMo 21), .int (zI mo_found), .int (zI mo_counted), .int (zI mo_isParted), .ref (aMo 25), .ref (aMo 26), .ref (aMo 27), .ref (aMo 28), .ref (aMo 29), .int (zI mo_maybes), .int (zI mo_days), .int (zI mo_over2), .int (zI mo_longer), .ref (aMo 34)])), ((aMo 3), .inl (ca 0, 11, .inl (zA mo_rules))), ((aMo 14), .inl (ca 0, 20161, .inl (zA mo_driven))), ((aMo 15), .inl (ca 0, 60, .inl (zA mo_runFrom))), ((aMo 16), .inl (ca 0, 60, .inl (zA mo_runTo))), ((aMo 25), .inl (ca 0, 12, .inl (zA mo_maybe))), ((aMo 26), .inl (ca 0, 62, .inl (zA mo_dayFrom))), ((aMo 27), .inl (ca 0, 62, .inl (zA mo_dayTo))), ((aMo 28), .inl (ca 0, 62, .inl (zA mo_dayRun))), ((aMo 29), .inl (ca 3, 62, .inl (zA mo_isLonger)))] none (fun _ => [((aMo 0), .inr (11, [.ref (aMo 1), .int (zI mo_taped), .ref (aMo 3), .ref (aMo 4), .ref (aMo 5), .ref (aMo 6), .ref (aMo 7), .ref (aMo 8), .ref (aMo 9), .ref (aMo 10), .ref (aMo 11), .ref (aMo 12), .ref (aMo 13), .ref (aMo 14), .ref (aMo 15), .ref (aMo 16), .int (zI mo_size), .int (zI mo_runs), .ref (aMo 19), .ref (aMo 20), .ref (aMo 21), .int (zI mo_found), .int (zI mo_counted), .int (zI mo_isParted), .ref (aMo 25), .ref (aMo 26), .ref (aMo 27), .ref (aMo 28), .ref (aMo 29), .int (zI mo_maybes_o), .int (zI mo_days_o), .int (zI mo_over2_o), .int (zI mo_longer_o), .ref (aMo 34)])), ((aMo 3), .inl (ca 0, 11, .inl (zA mo_rules))), ((aMo 14), .inl (ca 0, 20161, .inl (zA mo_driven))), ((aMo 15), .inl (ca 0, 60, .inl (zA mo_runFrom))), ((aMo 16), .inl (ca 0, 60, .inl (zA mo_runTo))), ((aMo 25), .inl (ca 0, 12, .inl (zA mo_maybe_o))), ((aMo 26), .inl (ca 0, 62, .inl (zA mo_dayFrom_o))), ((aMo 27), .inl (ca 0, 62, .inl (zA mo_dayTo_o))), ((aMo 28), .inl (ca 0, 62, .inl (zA mo_dayRun_o))), ((aMo 29), .inl (ca 3, 62, .inl (zA mo_isLonger_o)))]) := by
  refine ctr_of (lv := [(0, .ref (aMo 0))]) (by decide +kernel) (Nat.le_of_ble_eq_true rfl) rfl (fun Γ hl0 C E hnm => ?_)
  have H24 : ∀ (mo_maybe : Nat → Int) (mo_maybes : Int) (n24 : Nat) (v1 : Int) (v2 : Int) (v3 : Int) (v4 : Int) (mo_dayFrom : Nat → Int) (mo_dayTo : Nat → Int) (mo_dayRun : Nat → Int) (mo_isLonger : Nat → Int) (mo_days : Int) (mo_over2 : Int) (mo_longer : Int), zlp (fX11_chooses_24 mo_rules mo_driven mo_runFrom mo_runTo mo_size mo_runs mo_maybe mo_maybes) n24 (v1, v2, v3, v4, mo_dayFrom, mo_dayTo, mo_dayRun, mo_isLonger, mo_days, mo_over2, mo_longer) = some (mo_maybe_o, mo_dayFrom_o, mo_dayTo_o, mo_dayRun_o, mo_isLonger_o, mo_maybes_o, mo_days_o, mo_over2_o, mo_longer_o) → Zd D Γ 0 0 [((aMo 0), .inr (11, [.ref (aMo 1), .int (zI mo_taped), .ref (aMo 3), .ref (aMo 4), .ref (aMo 5), .ref (aMo 6), .ref (aMo 7), .ref (aMo 8), .ref (aMo 9), .ref (aMo 10), .ref (aMo 11), .ref (aMo 12), .ref (aMo 13), .ref (aMo 14), .ref (aMo 15), .ref (aMo 16), .int (zI mo_size), .int (zI mo_runs), .ref (aMo 19), .ref (aMo 20), .ref (aMo 21), .int (zI mo_found), .int (zI mo_counted), .int (zI mo_isParted), .ref (aMo 25), .ref (aMo 26), .ref (aMo 27), .ref (aMo 28), .ref (aMo 29), .int (zI mo_maybes), .int (zI mo_days), .int (zI mo_over2), .int (zI mo_longer), .ref (aMo 34)])), ((aMo 3), .inl (ca 0, 11, .inl (zA mo_rules))), ((aMo 14), .inl (ca 0, 20161, .inl (zA mo_driven))), ((aMo 15), .inl (ca 0, 60, .inl (zA mo_runFrom))), ((aMo 16), .inl (ca 0, 60, .inl (zA mo_runTo))), ((aMo 25), .inl (ca 0, 12, .inl (zA mo_maybe))), ((aMo 26), .inl (ca 0, 62, .inl (zA mo_dayFrom))), ((aMo 27), .inl (ca 0, 62, .inl (zA mo_dayTo))), ((aMo 28), .inl (ca 0, 62, .inl (zA mo_dayRun))), ((aMo 29), .inl (ca 3, 62, .inl (zA mo_isLonger)))] 24 [(0, .ref (aMo 0)), (1, .int (zI v1)), (2, .int (zI v2)), (3, .int (zI v3)), (4, .int (zI v4))] [] := by
    intro mo_maybe mo_maybes
    intro n24
    induction n24 with
    | zero =>
      intro v1 v2 v3 v4 mo_dayFrom mo_dayTo mo_dayRun mo_isLonger mo_days mo_over2 mo_longer hf
      exact zno hf
    | succ n24 ih24 =>
      have H171 : ∀ (v1 : Int) (v2 : Int) (v3 : Int) (v4 : Int) (mo_maybe : Nat → Int) (mo_dayFrom : Nat → Int) (mo_dayTo : Nat → Int) (mo_dayRun : Nat → Int) (mo_isLonger : Nat → Int) (mo_maybes : Int) (mo_days : Int) (mo_over2 : Int) (mo_longer : Int), fX11_chooses_171 (zlp (fX11_chooses_24 mo_rules mo_driven mo_runFrom mo_runTo mo_size mo_runs mo_maybe mo_maybes) n24) v1 v2 v3 v4 mo_dayFrom mo_dayTo mo_dayRun mo_isLonger mo_days mo_over2 mo_longer = some (mo_maybe_o, mo_dayFrom_o, mo_dayTo_o, mo_dayRun_o, mo_isLonger_o, mo_maybes_o, mo_days_o, mo_over2_o, mo_longer_o) → Zd D Γ 0 0 [((aMo 0), .inr (11, [.ref (aMo 1), .int (zI mo_taped), .ref (aMo 3), .ref (aMo 4), .ref (aMo 5), .ref (aMo 6), .ref (aMo 7), .ref (aMo 8), .ref (aMo 9), .ref (aMo 10), .ref (aMo 11), .ref (aMo 12), .ref (aMo 13), .ref (aMo 14), .ref (aMo 15), .ref (aMo 16), .int (zI mo_size), .int (zI mo_runs), .ref (aMo 19), .ref (aMo 20), .ref (aMo 21), .int (zI mo_found), .int (zI mo_counted), .int (zI mo_isParted), .ref (aMo 25), .ref (aMo 26), .ref (aMo 27), .ref (aMo 28), .ref (aMo 29), .int (zI mo_maybes), .int (zI mo_days), .int (zI mo_over2), .int (zI mo_longer), .ref (aMo 34)])), ((aMo 3), .inl (ca 0, 11, .inl (zA mo_rules))), ((aMo 14), .inl (ca 0, 20161, .inl (zA mo_driven))), ((aMo 15), .inl (ca 0, 60, .inl (zA mo_runFrom))), ((aMo 16), .inl (ca 0, 60, .inl (zA mo_runTo))), ((aMo 25), .inl (ca 0, 12, .inl (zA mo_maybe))), ((aMo 26), .inl (ca 0, 62, .inl (zA mo_dayFrom))), ((aMo 27), .inl (ca 0, 62, .inl (zA mo_dayTo))), ((aMo 28), .inl (ca 0, 62, .inl (zA mo_dayRun))), ((aMo 29), .inl (ca 3, 62, .inl (zA mo_isLonger)))] 171 [(0, .ref (aMo 0)), (1, .int (zI v1)), (2, .int (zI v2)), (3, .int (zI v3)), (4, .int (zI v4))] [] := by
        intro v1 v2 v3 v4 mo_maybe mo_dayFrom mo_dayTo mo_dayRun mo_isLonger mo_maybes mo_days mo_over2 mo_longer hf
        unfold fX11_chooses_171 at hf
        refine g_iinc (pc := 171) C 4 (lv' := [(4, .int (zI (v4 + 1))), (0, .ref (aMo 0)), (1, .int (zI v1)), (2, .int (zI v2)), (3, .int (zI v3))]) dX11_chooses_171 rfl (Nat.le_of_ble_eq_true rfl) rfl ?_
        refine g_goto (pc := 174) C (tgt := 24) dX11_chooses_174 (by decide) ?_
        refine g_sub [0, 1, 2, 3, 4, 5, 6, 7, 8, 9] [1, 2, 3, 4, 0] (by decide) rfl rfl rfl ?_
        exact ih24 _ _ _ _ _ _ _ _ _ _ _ hf
      have H150 : ∀ (v1 : Int) (v2 : Int) (v3 : Int) (v4 : Int) (v5 : Int) (mo_maybe : Nat → Int) (mo_dayFrom : Nat → Int) (mo_dayTo : Nat → Int) (mo_dayRun : Nat → Int) (mo_isLonger : Nat → Int) (mo_maybes : Int) (mo_days : Int) (mo_over2 : Int) (mo_longer : Int), fX11_chooses_150 (zlp (fX11_chooses_24 mo_rules mo_driven mo_runFrom mo_runTo mo_size mo_runs mo_maybe mo_maybes) n24) v1 v2 v3 v4 v5 mo_dayFrom mo_dayTo mo_dayRun mo_isLonger mo_days mo_over2 mo_longer = some (mo_maybe_o, mo_dayFrom_o, mo_dayTo_o, mo_dayRun_o, mo_isLonger_o, mo_maybes_o, mo_days_o, mo_over2_o, mo_longer_o) → Zd D Γ 0 0 [((aMo 0), .inr (11, [.ref (aMo 1), .int (zI mo_taped), .ref (aMo 3), .ref (aMo 4), .ref (aMo 5), .ref (aMo 6), .ref (aMo 7), .ref (aMo 8), .ref (aMo 9), .ref (aMo 10), .ref (aMo 11), .ref (aMo 12), .ref (aMo 13), .ref (aMo 14), .ref (aMo 15), .ref (aMo 16), .int (zI mo_size), .int (zI mo_runs), .ref (aMo 19), .ref (aMo 20), .ref (aMo 21), .int (zI mo_found), .int (zI mo_counted), .int (zI mo_isParted), .ref (aMo 25), .ref (aMo 26), .ref (aMo 27), .ref (aMo 28), .ref (aMo 29), .int (zI mo_maybes), .int (zI mo_days), .int (zI mo_over2), .int (zI mo_longer), .ref (aMo 34)])), ((aMo 3), .inl (ca 0, 11, .inl (zA mo_rules))), ((aMo 14), .inl (ca 0, 20161, .inl (zA mo_driven))), ((aMo 15), .inl (ca 0, 60, .inl (zA mo_runFrom))), ((aMo 16), .inl (ca 0, 60, .inl (zA mo_runTo))), ((aMo 25), .inl (ca 0, 12, .inl (zA mo_maybe))), ((aMo 26), .inl (ca 0, 62, .inl (zA mo_dayFrom))), ((aMo 27), .inl (ca 0, 62, .inl (zA mo_dayTo))), ((aMo 28), .inl (ca 0, 62, .inl (zA mo_dayRun))), ((aMo 29), .inl (ca 3, 62, .inl (zA mo_isLonger)))] 150 [(0, .ref (aMo 0)), (1, .int (zI v1)), (2, .int (zI v2)), (3, .int (zI v3)), (4, .int (zI v4)), (5, .int (zI v5))] [] := by
        intro v1 v2 v3 v4 v5 mo_maybe mo_dayFrom mo_dayTo mo_dayRun mo_isLonger mo_maybes mo_days mo_over2 mo_longer hf
        unfold fX11_chooses_150 at hf
        refine g_iload (pc := 150) C 5 dX11_chooses_150 rfl ?_
        refine g_if_ne (pc := 152) C (tgt := 158) dX11_chooses_152 (by decide) hf (fun hf => ?_) (fun hf => ?_)
        · refine g_iload (pc := 158) C 4 dX11_chooses_158 rfl ?_
          refine g_istore_n (pc := 160) C (lv' := [(1, .int (zI v4)), (0, .ref (aMo 0)), (2, .int (zI v2)), (3, .int (zI v3)), (4, .int (zI v4)), (5, .int (zI v5))]) dX11_chooses_160 rfl (Nat.le_of_ble_eq_true rfl) rfl ?_
          refine g_aload_n (pc := 161) C 1 dX11_chooses_161 rfl rfl ?_
          refine g_get (pc := 162) C zf_X11_177 0 rfl rfl dX11_chooses_162 ?_
          refine g_istore_n (pc := 165) C (lv' := [(2, .int (zI mo_over2)), (1, .int (zI v4)), (0, .ref (aMo 0)), (3, .int (zI v3)), (4, .int (zI v4)), (5, .int (zI v5))]) dX11_chooses_165 rfl (Nat.le_of_ble_eq_true rfl) rfl ?_
          refine g_aload_n (pc := 166) C 2 dX11_chooses_166 rfl rfl ?_
          refine g_get (pc := 167) C zf_X11_164 0 rfl rfl dX11_chooses_167 ?_
          refine g_istore_n (pc := 170) C (lv' := [(3, .int (zI mo_longer)), (2, .int (zI mo_over2)), (1, .int (zI v4)), (0, .ref (aMo 0)), (4, .int (zI v4)), (5, .int (zI v5))]) dX11_chooses_170 rfl (Nat.le_of_ble_eq_true rfl) rfl ?_
          refine g_sub [0, 1, 2, 3, 4, 5, 6, 7, 8, 9] [3, 2, 1, 0, 4] (by decide) rfl rfl rfl ?_
          exact H171 _ _ _ _ _ _ _ _ _ _ _ _ _ hf
        · refine g_goto (pc := 155) C (tgt := 171) dX11_chooses_155 (by decide) ?_
          refine g_sub [0, 1, 2, 3, 4, 5, 6, 7, 8, 9] [0, 1, 2, 3, 4] (by decide) rfl rfl rfl ?_
          exact H171 _ _ _ _ _ _ _ _ _ _ _ _ _ hf
      have H105 : ∀ (v1 : Int) (v2 : Int) (v3 : Int) (v4 : Int) (s0 : Int) (mo_maybe : Nat → Int) (mo_dayFrom : Nat → Int) (mo_dayTo : Nat → Int) (mo_dayRun : Nat → Int) (mo_isLonger : Nat → Int) (mo_maybes : Int) (mo_days : Int) (mo_over2 : Int) (mo_longer : Int), fX11_chooses_105 (zlp (fX11_chooses_24 mo_rules mo_driven mo_runFrom mo_runTo mo_size mo_runs mo_maybe mo_maybes) n24) v1 v2 v3 v4 s0 mo_dayFrom mo_dayTo mo_dayRun mo_isLonger mo_days mo_over2 mo_longer = some (mo_maybe_o, mo_dayFrom_o, mo_dayTo_o, mo_dayRun_o, mo_isLonger_o, mo_maybes_o, mo_days_o, mo_over2_o, mo_longer_o) → Zd D Γ 0 0 [((aMo 0), .inr (11, [.ref (aMo 1), .int (zI mo_taped), .ref (aMo 3), .ref (aMo 4), .ref (aMo 5), .ref (aMo 6), .ref (aMo 7), .ref (aMo 8), .ref (aMo 9), .ref (aMo 10), .ref (aMo 11), .ref (aMo 12), .ref (aMo 13), .ref (aMo 14), .ref (aMo 15), .ref (aMo 16), .int (zI mo_size), .int (zI mo_runs), .ref (aMo 19), .ref (aMo 20), .ref (aMo 21), .int (zI mo_found), .int (zI mo_counted), .int (zI mo_isParted), .ref (aMo 25), .ref (aMo 26), .ref (aMo 27), .ref (aMo 28), .ref (aMo 29), .int (zI mo_maybes), .int (zI mo_days), .int (zI mo_over2), .int (zI mo_longer), .ref (aMo 34)])), ((aMo 3), .inl (ca 0, 11, .inl (zA mo_rules))), ((aMo 14), .inl (ca 0, 20161, .inl (zA mo_driven))), ((aMo 15), .inl (ca 0, 60, .inl (zA mo_runFrom))), ((aMo 16), .inl (ca 0, 60, .inl (zA mo_runTo))), ((aMo 25), .inl (ca 0, 12, .inl (zA mo_maybe))), ((aMo 26), .inl (ca 0, 62, .inl (zA mo_dayFrom))), ((aMo 27), .inl (ca 0, 62, .inl (zA mo_dayTo))), ((aMo 28), .inl (ca 0, 62, .inl (zA mo_dayRun))), ((aMo 29), .inl (ca 3, 62, .inl (zA mo_isLonger)))] 105 [(0, .ref (aMo 0)), (1, .int (zI v1)), (2, .int (zI v2)), (3, .int (zI v3)), (4, .int (zI v4))] [.int (zI s0)] := by
        intro v1 v2 v3 v4 s0 mo_maybe mo_dayFrom mo_dayTo mo_dayRun mo_isLonger mo_maybes mo_days mo_over2 mo_longer hf
        unfold fX11_chooses_105 at hf
        refine g_istore (pc := 105) C (lv' := [(5, .int (zI s0)), (0, .ref (aMo 0)), (1, .int (zI v1)), (2, .int (zI v2)), (3, .int (zI v3)), (4, .int (zI v4))]) dX11_chooses_105 (Nat.le_of_ble_eq_true rfl) rfl ?_
        refine g_goto (pc := 107) C (tgt := 150) dX11_chooses_107 (by decide) ?_
        refine g_sub [0, 1, 2, 3, 4, 5, 6, 7, 8, 9] [1, 2, 3, 4, 5, 0] (by decide) rfl rfl rfl ?_
        exact H150 _ _ _ _ _ _ _ _ _ _ _ _ _ _ hf
      have H148 : ∀ (v1 : Int) (v2 : Int) (v3 : Int) (v4 : Int) (s0 : Int) (mo_maybe : Nat → Int) (mo_dayFrom : Nat → Int) (mo_dayTo : Nat → Int) (mo_dayRun : Nat → Int) (mo_isLonger : Nat → Int) (mo_maybes : Int) (mo_days : Int) (mo_over2 : Int) (mo_longer : Int), fX11_chooses_148 (zlp (fX11_chooses_24 mo_rules mo_driven mo_runFrom mo_runTo mo_size mo_runs mo_maybe mo_maybes) n24) v1 v2 v3 v4 s0 mo_dayFrom mo_dayTo mo_dayRun mo_isLonger mo_days mo_over2 mo_longer = some (mo_maybe_o, mo_dayFrom_o, mo_dayTo_o, mo_dayRun_o, mo_isLonger_o, mo_maybes_o, mo_days_o, mo_over2_o, mo_longer_o) → Zd D Γ 0 0 [((aMo 0), .inr (11, [.ref (aMo 1), .int (zI mo_taped), .ref (aMo 3), .ref (aMo 4), .ref (aMo 5), .ref (aMo 6), .ref (aMo 7), .ref (aMo 8), .ref (aMo 9), .ref (aMo 10), .ref (aMo 11), .ref (aMo 12), .ref (aMo 13), .ref (aMo 14), .ref (aMo 15), .ref (aMo 16), .int (zI mo_size), .int (zI mo_runs), .ref (aMo 19), .ref (aMo 20), .ref (aMo 21), .int (zI mo_found), .int (zI mo_counted), .int (zI mo_isParted), .ref (aMo 25), .ref (aMo 26), .ref (aMo 27), .ref (aMo 28), .ref (aMo 29), .int (zI mo_maybes), .int (zI mo_days), .int (zI mo_over2), .int (zI mo_longer), .ref (aMo 34)])), ((aMo 3), .inl (ca 0, 11, .inl (zA mo_rules))), ((aMo 14), .inl (ca 0, 20161, .inl (zA mo_driven))), ((aMo 15), .inl (ca 0, 60, .inl (zA mo_runFrom))), ((aMo 16), .inl (ca 0, 60, .inl (zA mo_runTo))), ((aMo 25), .inl (ca 0, 12, .inl (zA mo_maybe))), ((aMo 26), .inl (ca 0, 62, .inl (zA mo_dayFrom))), ((aMo 27), .inl (ca 0, 62, .inl (zA mo_dayTo))), ((aMo 28), .inl (ca 0, 62, .inl (zA mo_dayRun))), ((aMo 29), .inl (ca 3, 62, .inl (zA mo_isLonger)))] 148 [(0, .ref (aMo 0)), (1, .int (zI v1)), (2, .int (zI v2)), (3, .int (zI v3)), (4, .int (zI v4))] [.int (zI s0)] := by
        intro v1 v2 v3 v4 s0 mo_maybe mo_dayFrom mo_dayTo mo_dayRun mo_isLonger mo_maybes mo_days mo_over2 mo_longer hf
        unfold fX11_chooses_148 at hf
        refine g_istore (pc := 148) C (lv' := [(5, .int (zI s0)), (0, .ref (aMo 0)), (1, .int (zI v1)), (2, .int (zI v2)), (3, .int (zI v3)), (4, .int (zI v4))]) dX11_chooses_148 (Nat.le_of_ble_eq_true rfl) rfl ?_
        refine g_sub [0, 1, 2, 3, 4, 5, 6, 7, 8, 9] [1, 2, 3, 4, 5, 0] (by decide) rfl rfl rfl ?_
        exact H150 _ _ _ _ _ _ _ _ _ _ _ _ _ _ hf
      have H110 : ∀ (v1 : Int) (v2 : Int) (v3 : Int) (v4 : Int) (v5 : Int) (mo_maybe : Nat → Int) (mo_dayFrom : Nat → Int) (mo_dayTo : Nat → Int) (mo_dayRun : Nat → Int) (mo_isLonger : Nat → Int) (mo_maybes : Int) (mo_days : Int) (mo_over2 : Int) (mo_longer : Int), fX11_chooses_110 (zlp (fX11_chooses_24 mo_rules mo_driven mo_runFrom mo_runTo mo_size mo_runs mo_maybe mo_maybes) n24) v1 v2 v3 v4 v5 mo_dayFrom mo_dayTo mo_dayRun mo_isLonger mo_days mo_over2 mo_longer = some (mo_maybe_o, mo_dayFrom_o, mo_dayTo_o, mo_dayRun_o, mo_isLonger_o, mo_maybes_o, mo_days_o, mo_over2_o, mo_longer_o) → Zd D Γ 0 0 [((aMo 0), .inr (11, [.ref (aMo 1), .int (zI mo_taped), .ref (aMo 3), .ref (aMo 4), .ref (aMo 5), .ref (aMo 6), .ref (aMo 7), .ref (aMo 8), .ref (aMo 9), .ref (aMo 10), .ref (aMo 11), .ref (aMo 12), .ref (aMo 13), .ref (aMo 14), .ref (aMo 15), .ref (aMo 16), .int (zI mo_size), .int (zI mo_runs), .ref (aMo 19), .ref (aMo 20), .ref (aMo 21), .int (zI mo_found), .int (zI mo_counted), .int (zI mo_isParted), .ref (aMo 25), .ref (aMo 26), .ref (aMo 27), .ref (aMo 28), .ref (aMo 29), .int (zI mo_maybes), .int (zI mo_days), .int (zI mo_over2), .int (zI mo_longer), .ref (aMo 34)])), ((aMo 3), .inl (ca 0, 11, .inl (zA mo_rules))), ((aMo 14), .inl (ca 0, 20161, .inl (zA mo_driven))), ((aMo 15), .inl (ca 0, 60, .inl (zA mo_runFrom))), ((aMo 16), .inl (ca 0, 60, .inl (zA mo_runTo))), ((aMo 25), .inl (ca 0, 12, .inl (zA mo_maybe))), ((aMo 26), .inl (ca 0, 62, .inl (zA mo_dayFrom))), ((aMo 27), .inl (ca 0, 62, .inl (zA mo_dayTo))), ((aMo 28), .inl (ca 0, 62, .inl (zA mo_dayRun))), ((aMo 29), .inl (ca 3, 62, .inl (zA mo_isLonger)))] 110 [(0, .ref (aMo 0)), (1, .int (zI v1)), (2, .int (zI v2)), (3, .int (zI v3)), (4, .int (zI v4)), (5, .int (zI v5))] [] := by
        intro v1 v2 v3 v4 v5 mo_maybe mo_dayFrom mo_dayTo mo_dayRun mo_isLonger mo_maybes mo_days mo_over2 mo_longer hf
        unfold fX11_chooses_110 at hf
        refine g_aload_n (pc := 110) C 0 dX11_chooses_110 rfl rfl ?_
        refine g_get (pc := 111) C zf_X11_177 0 rfl rfl dX11_chooses_111 ?_
        refine g_iload_n (pc := 114) C 2 dX11_chooses_114 rfl rfl ?_
        refine g_icmp_ne (pc := 115) C (tgt := 150) dX11_chooses_115 (by decide) hf (fun hf => ?_) (fun hf => ?_)
        · exact H150 _ _ _ _ _ _ _ _ _ _ _ _ _ _ hf
        · refine g_aload_n (pc := 118) C 0 dX11_chooses_118 rfl rfl ?_
          refine g_get (pc := 119) C zf_X11_164 0 rfl rfl dX11_chooses_119 ?_
          refine g_iload_n (pc := 122) C 3 dX11_chooses_122 rfl rfl ?_
          refine g_icmp_eq (pc := 123) C (tgt := 142) dX11_chooses_123 (by decide) hf (fun hf => ?_) (fun hf => ?_)
          · refine g_iload (pc := 142) C 4 dX11_chooses_142 rfl ?_
            refine g_iload_n (pc := 144) C 1 dX11_chooses_144 rfl rfl ?_
            obtain ⟨r_145, hc_145, hf⟩ := Option.bind_eq_some_iff.mp hf
            refine g_callS (pc := 145) C hl0 (wr := [((aMo 0), .inr (11, [.ref (aMo 1), .int (zI mo_taped), .ref (aMo 3), .ref (aMo 4), .ref (aMo 5), .ref (aMo 6), .ref (aMo 7), .ref (aMo 8), .ref (aMo 9), .ref (aMo 10), .ref (aMo 11), .ref (aMo 12), .ref (aMo 13), .ref (aMo 14), .ref (aMo 15), .ref (aMo 16), .int (zI mo_size), .int (zI mo_runs), .ref (aMo 19), .ref (aMo 20), .ref (aMo 21), .int (zI mo_found), .int (zI mo_counted), .int (zI mo_isParted), .ref (aMo 25), .ref (aMo 26), .ref (aMo 27), .ref (aMo 28), .ref (aMo 29), .int (zI mo_maybes), .int (zI mo_days), .int (zI mo_over2), .int (zI mo_longer), .ref (aMo 34)])), ((aMo 3), .inl (ca 0, 11, .inl (zA mo_rules))), ((aMo 14), .inl (ca 0, 20161, .inl (zA mo_driven))), ((aMo 15), .inl (ca 0, 60, .inl (zA mo_runFrom))), ((aMo 16), .inl (ca 0, 60, .inl (zA mo_runTo))), ((aMo 25), .inl (ca 0, 12, .inl (zA mo_maybe))), ((aMo 26), .inl (ca 0, 62, .inl (zA mo_dayFrom))), ((aMo 27), .inl (ca 0, 62, .inl (zA mo_dayTo))), ((aMo 28), .inl (ca 0, 62, .inl (zA mo_dayRun))), ((aMo 29), .inl (ca 3, 62, .inl (zA mo_isLonger)))]) (k' := 0) (n' := 0) (ws' := fun _ => [((aMo 0), .inr (11, [.ref (aMo 1), .int (zI mo_taped), .ref (aMo 3), .ref (aMo 4), .ref (aMo 5), .ref (aMo 6), .ref (aMo 7), .ref (aMo 8), .ref (aMo 9), .ref (aMo 10), .ref (aMo 11), .ref (aMo 12), .ref (aMo 13), .ref (aMo 14), .ref (aMo 15), .ref (aMo 16), .int (zI mo_size), .int (zI mo_runs), .ref (aMo 19), .ref (aMo 20), .ref (aMo 21), .int (zI mo_found), .int (zI mo_counted), .int (zI mo_isParted), .ref (aMo 25), .ref (aMo 26), .ref (aMo 27), .ref (aMo 28), .ref (aMo 29), .int (zI mo_maybes), .int (zI mo_days), .int (zI mo_over2), .int (zI mo_longer), .ref (aMo 34)])), ((aMo 3), .inl (ca 0, 11, .inl (zA mo_rules))), ((aMo 14), .inl (ca 0, 20161, .inl (zA mo_driven))), ((aMo 15), .inl (ca 0, 60, .inl (zA mo_runFrom))), ((aMo 16), .inl (ca 0, 60, .inl (zA mo_runTo))), ((aMo 25), .inl (ca 0, 12, .inl (zA mo_maybe))), ((aMo 26), .inl (ca 0, 62, .inl (zA mo_dayFrom))), ((aMo 27), .inl (ca 0, 62, .inl (zA mo_dayTo))), ((aMo 28), .inl (ca 0, 62, .inl (zA mo_dayRun))), ((aMo 29), .inl (ca 3, 62, .inl (zA mo_isLonger)))]) (st' := [.int (zI r_145)]) (kX11_isEarlier l D ca v4 v1 r_145 hc_145) wml_RX11_195 wst_X11_isEarlier win_RX11 wco_X11_isEarlier (nA := 2) rfl (by decide +kernel)  ⟨(Nat.le_of_ble_eq_true rfl), (Nat.le_of_ble_eq_true rfl)⟩ (Nat.le_refl _) (Nat.le_refl _) rfl (by decide) dX11_chooses_145 [] [0, 1, 2, 3, 4, 5, 6, 7, 8, 9] rfl rfl rfl (by decide) (by decide) (by decide) rfl rfl (fun _ => rfl) rfl (fun _ => ?_)
            refine g_sub [0, 1, 2, 3, 4, 5, 6, 7, 8, 9] [0, 1, 2, 3, 4] (by decide) rfl rfl rfl ?_
            exact H148 _ _ _ _ _ _ _ _ _ _ _ _ _ _ hf
          · refine g_aload_n (pc := 126) C 0 dX11_chooses_126 rfl rfl ?_
            refine g_get (pc := 127) C zf_X11_164 0 rfl rfl dX11_chooses_127 ?_
            refine g_iload_n (pc := 130) C 3 dX11_chooses_130 rfl rfl ?_
            refine g_icmp_ge (pc := 131) C (tgt := 138) dX11_chooses_131 (by decide) hf (fun hf => ?_) (fun hf => ?_)
            · refine g_iconst (pc := 138) C dX11_chooses_138 ?_
              refine g_goto (pc := 139) C (tgt := 148) dX11_chooses_139 (by decide) ?_
              refine g_sub [0, 1, 2, 3, 4, 5, 6, 7, 8, 9] [0, 1, 2, 3, 4] (by decide) rfl rfl rfl ?_
              exact H148 _ _ _ _ _ _ _ _ _ _ _ _ _ _ hf
            · refine g_iconst (pc := 134) C dX11_chooses_134 ?_
              refine g_goto (pc := 135) C (tgt := 148) dX11_chooses_135 (by decide) ?_
              refine g_sub [0, 1, 2, 3, 4, 5, 6, 7, 8, 9] [0, 1, 2, 3, 4] (by decide) rfl rfl rfl ?_
              exact H148 _ _ _ _ _ _ _ _ _ _ _ _ _ _ hf
      have H66 : ∀ (v1 : Int) (v2 : Int) (v3 : Int) (v4 : Int) (s0 : Int) (mo_maybe : Nat → Int) (mo_dayFrom : Nat → Int) (mo_dayTo : Nat → Int) (mo_dayRun : Nat → Int) (mo_isLonger : Nat → Int) (mo_maybes : Int) (mo_days : Int) (mo_over2 : Int) (mo_longer : Int), fX11_chooses_66 (zlp (fX11_chooses_24 mo_rules mo_driven mo_runFrom mo_runTo mo_size mo_runs mo_maybe mo_maybes) n24) v1 v2 v3 v4 s0 mo_dayFrom mo_dayTo mo_dayRun mo_isLonger mo_days mo_over2 mo_longer = some (mo_maybe_o, mo_dayFrom_o, mo_dayTo_o, mo_dayRun_o, mo_isLonger_o, mo_maybes_o, mo_days_o, mo_over2_o, mo_longer_o) → Zd D Γ 0 0 [((aMo 0), .inr (11, [.ref (aMo 1), .int (zI mo_taped), .ref (aMo 3), .ref (aMo 4), .ref (aMo 5), .ref (aMo 6), .ref (aMo 7), .ref (aMo 8), .ref (aMo 9), .ref (aMo 10), .ref (aMo 11), .ref (aMo 12), .ref (aMo 13), .ref (aMo 14), .ref (aMo 15), .ref (aMo 16), .int (zI mo_size), .int (zI mo_runs), .ref (aMo 19), .ref (aMo 20), .ref (aMo 21), .int (zI mo_found), .int (zI mo_counted), .int (zI mo_isParted), .ref (aMo 25), .ref (aMo 26), .ref (aMo 27), .ref (aMo 28), .ref (aMo 29), .int (zI mo_maybes), .int (zI mo_days), .int (zI mo_over2), .int (zI mo_longer), .ref (aMo 34)])), ((aMo 3), .inl (ca 0, 11, .inl (zA mo_rules))), ((aMo 14), .inl (ca 0, 20161, .inl (zA mo_driven))), ((aMo 15), .inl (ca 0, 60, .inl (zA mo_runFrom))), ((aMo 16), .inl (ca 0, 60, .inl (zA mo_runTo))), ((aMo 25), .inl (ca 0, 12, .inl (zA mo_maybe))), ((aMo 26), .inl (ca 0, 62, .inl (zA mo_dayFrom))), ((aMo 27), .inl (ca 0, 62, .inl (zA mo_dayTo))), ((aMo 28), .inl (ca 0, 62, .inl (zA mo_dayRun))), ((aMo 29), .inl (ca 3, 62, .inl (zA mo_isLonger)))] 66 [(0, .ref (aMo 0)), (1, .int (zI v1)), (2, .int (zI v2)), (3, .int (zI v3)), (4, .int (zI v4))] [.int (zI s0)] := by
        intro v1 v2 v3 v4 s0 mo_maybe mo_dayFrom mo_dayTo mo_dayRun mo_isLonger mo_maybes mo_days mo_over2 mo_longer hf
        unfold fX11_chooses_66 at hf
        refine g_istore (pc := 66) C (lv' := [(5, .int (zI s0)), (0, .ref (aMo 0)), (1, .int (zI v1)), (2, .int (zI v2)), (3, .int (zI v3)), (4, .int (zI v4))]) dX11_chooses_66 (Nat.le_of_ble_eq_true rfl) rfl ?_
        refine g_aload_n (pc := 68) C 1 dX11_chooses_68 rfl rfl ?_
        refine g_get (pc := 69) C zf_X11_177 0 rfl rfl dX11_chooses_69 ?_
        refine g_iload_n (pc := 72) C 3 dX11_chooses_72 rfl rfl ?_
        refine g_icmp_ne (pc := 73) C (tgt := 110) dX11_chooses_73 (by decide) hf (fun hf => ?_) (fun hf => ?_)
        · refine g_sub [0, 1, 2, 3, 4, 5, 6, 7, 8, 9] [1, 2, 3, 4, 5, 0] (by decide) rfl rfl rfl ?_
          exact H110 _ _ _ _ _ _ _ _ _ _ _ _ _ _ hf
        · refine g_iload (pc := 76) C 5 dX11_chooses_76 rfl ?_
          obtain ⟨r_78, hc_78, hf⟩ := Option.bind_eq_some_iff.mp hf
          refine g_callS (pc := 78) C hl0 (wr := [((aMo 0), .inr (11, [.ref (aMo 1), .int (zI mo_taped), .ref (aMo 3), .ref (aMo 4), .ref (aMo 5), .ref (aMo 6), .ref (aMo 7), .ref (aMo 8), .ref (aMo 9), .ref (aMo 10), .ref (aMo 11), .ref (aMo 12), .ref (aMo 13), .ref (aMo 14), .ref (aMo 15), .ref (aMo 16), .int (zI mo_size), .int (zI mo_runs), .ref (aMo 19), .ref (aMo 20), .ref (aMo 21), .int (zI mo_found), .int (zI mo_counted), .int (zI mo_isParted), .ref (aMo 25), .ref (aMo 26), .ref (aMo 27), .ref (aMo 28), .ref (aMo 29), .int (zI mo_maybes), .int (zI mo_days), .int (zI mo_over2), .int (zI mo_longer), .ref (aMo 34)])), ((aMo 3), .inl (ca 0, 11, .inl (zA mo_rules))), ((aMo 14), .inl (ca 0, 20161, .inl (zA mo_driven))), ((aMo 15), .inl (ca 0, 60, .inl (zA mo_runFrom))), ((aMo 16), .inl (ca 0, 60, .inl (zA mo_runTo))), ((aMo 25), .inl (ca 0, 12, .inl (zA mo_maybe))), ((aMo 26), .inl (ca 0, 62, .inl (zA mo_dayFrom))), ((aMo 27), .inl (ca 0, 62, .inl (zA mo_dayTo))), ((aMo 28), .inl (ca 0, 62, .inl (zA mo_dayRun))), ((aMo 29), .inl (ca 3, 62, .inl (zA mo_isLonger)))]) (k' := 0) (n' := 0) (ws' := fun _ => [((aMo 0), .inr (11, [.ref (aMo 1), .int (zI mo_taped), .ref (aMo 3), .ref (aMo 4), .ref (aMo 5), .ref (aMo 6), .ref (aMo 7), .ref (aMo 8), .ref (aMo 9), .ref (aMo 10), .ref (aMo 11), .ref (aMo 12), .ref (aMo 13), .ref (aMo 14), .ref (aMo 15), .ref (aMo 16), .int (zI mo_size), .int (zI mo_runs), .ref (aMo 19), .ref (aMo 20), .ref (aMo 21), .int (zI mo_found), .int (zI mo_counted), .int (zI mo_isParted), .ref (aMo 25), .ref (aMo 26), .ref (aMo 27), .ref (aMo 28), .ref (aMo 29), .int (zI mo_maybes), .int (zI mo_days), .int (zI mo_over2), .int (zI mo_longer), .ref (aMo 34)])), ((aMo 3), .inl (ca 0, 11, .inl (zA mo_rules))), ((aMo 14), .inl (ca 0, 20161, .inl (zA mo_driven))), ((aMo 15), .inl (ca 0, 60, .inl (zA mo_runFrom))), ((aMo 16), .inl (ca 0, 60, .inl (zA mo_runTo))), ((aMo 25), .inl (ca 0, 12, .inl (zA mo_maybe))), ((aMo 26), .inl (ca 0, 62, .inl (zA mo_dayFrom))), ((aMo 27), .inl (ca 0, 62, .inl (zA mo_dayTo))), ((aMo 28), .inl (ca 0, 62, .inl (zA mo_dayRun))), ((aMo 29), .inl (ca 3, 62, .inl (zA mo_isLonger)))]) (st' := [.int (zI r_78)]) (kX11_bits l D ca v4 r_78 hc_78) wml_RX11_192 wst_X11_bits win_RX11 wco_X11_bits (nA := 1) rfl (by decide +kernel)  ⟨(Nat.le_of_ble_eq_true rfl), (Nat.le_of_ble_eq_true rfl)⟩ (Nat.le_refl _) (Nat.le_refl _) rfl (by decide) dX11_chooses_78 [] [0, 1, 2, 3, 4, 5, 6, 7, 8, 9] rfl rfl rfl (by decide) (by decide) (by decide) rfl rfl (fun _ => rfl) rfl (fun _ => ?_)
          refine g_iload_n (pc := 81) C 2 dX11_chooses_81 rfl rfl ?_
          obtain ⟨r_82, hc_82, hf⟩ := Option.bind_eq_some_iff.mp hf
          refine g_callS (pc := 82) C hl0 (wr := [((aMo 0), .inr (11, [.ref (aMo 1), .int (zI mo_taped), .ref (aMo 3), .ref (aMo 4), .ref (aMo 5), .ref (aMo 6), .ref (aMo 7), .ref (aMo 8), .ref (aMo 9), .ref (aMo 10), .ref (aMo 11), .ref (aMo 12), .ref (aMo 13), .ref (aMo 14), .ref (aMo 15), .ref (aMo 16), .int (zI mo_size), .int (zI mo_runs), .ref (aMo 19), .ref (aMo 20), .ref (aMo 21), .int (zI mo_found), .int (zI mo_counted), .int (zI mo_isParted), .ref (aMo 25), .ref (aMo 26), .ref (aMo 27), .ref (aMo 28), .ref (aMo 29), .int (zI mo_maybes), .int (zI mo_days), .int (zI mo_over2), .int (zI mo_longer), .ref (aMo 34)])), ((aMo 3), .inl (ca 0, 11, .inl (zA mo_rules))), ((aMo 14), .inl (ca 0, 20161, .inl (zA mo_driven))), ((aMo 15), .inl (ca 0, 60, .inl (zA mo_runFrom))), ((aMo 16), .inl (ca 0, 60, .inl (zA mo_runTo))), ((aMo 25), .inl (ca 0, 12, .inl (zA mo_maybe))), ((aMo 26), .inl (ca 0, 62, .inl (zA mo_dayFrom))), ((aMo 27), .inl (ca 0, 62, .inl (zA mo_dayTo))), ((aMo 28), .inl (ca 0, 62, .inl (zA mo_dayRun))), ((aMo 29), .inl (ca 3, 62, .inl (zA mo_isLonger)))]) (k' := 0) (n' := 0) (ws' := fun _ => [((aMo 0), .inr (11, [.ref (aMo 1), .int (zI mo_taped), .ref (aMo 3), .ref (aMo 4), .ref (aMo 5), .ref (aMo 6), .ref (aMo 7), .ref (aMo 8), .ref (aMo 9), .ref (aMo 10), .ref (aMo 11), .ref (aMo 12), .ref (aMo 13), .ref (aMo 14), .ref (aMo 15), .ref (aMo 16), .int (zI mo_size), .int (zI mo_runs), .ref (aMo 19), .ref (aMo 20), .ref (aMo 21), .int (zI mo_found), .int (zI mo_counted), .int (zI mo_isParted), .ref (aMo 25), .ref (aMo 26), .ref (aMo 27), .ref (aMo 28), .ref (aMo 29), .int (zI mo_maybes), .int (zI mo_days), .int (zI mo_over2), .int (zI mo_longer), .ref (aMo 34)])), ((aMo 3), .inl (ca 0, 11, .inl (zA mo_rules))), ((aMo 14), .inl (ca 0, 20161, .inl (zA mo_driven))), ((aMo 15), .inl (ca 0, 60, .inl (zA mo_runFrom))), ((aMo 16), .inl (ca 0, 60, .inl (zA mo_runTo))), ((aMo 25), .inl (ca 0, 12, .inl (zA mo_maybe))), ((aMo 26), .inl (ca 0, 62, .inl (zA mo_dayFrom))), ((aMo 27), .inl (ca 0, 62, .inl (zA mo_dayTo))), ((aMo 28), .inl (ca 0, 62, .inl (zA mo_dayRun))), ((aMo 29), .inl (ca 3, 62, .inl (zA mo_isLonger)))]) (st' := [.int (zI r_82), .int (zI r_78)]) (kX11_bits l D ca v1 r_82 hc_82) wml_RX11_192 wst_X11_bits win_RX11 wco_X11_bits (nA := 1) rfl (by decide +kernel)  ⟨(Nat.le_of_ble_eq_true rfl), (Nat.le_of_ble_eq_true rfl)⟩ (Nat.le_refl _) (Nat.le_refl _) rfl (by decide) dX11_chooses_82 [] [0, 1, 2, 3, 4, 5, 6, 7, 8, 9] rfl rfl rfl (by decide) (by decide) (by decide) rfl rfl (fun _ => rfl) rfl (fun _ => ?_)
          refine g_icmp_eq (pc := 85) C (tgt := 110) dX11_chooses_85 (by decide) hf (fun hf => ?_) (fun hf => ?_)
          · refine g_sub [0, 1, 2, 3, 4, 5, 6, 7, 8, 9] [1, 2, 3, 4, 5, 0] (by decide) rfl rfl rfl ?_
            exact H110 _ _ _ _ _ _ _ _ _ _ _ _ _ _ hf
          · refine g_iload (pc := 88) C 5 dX11_chooses_88 rfl ?_
            obtain ⟨r_90, hc_90, hf⟩ := Option.bind_eq_some_iff.mp hf
            refine g_callS (pc := 90) C hl0 (wr := [((aMo 0), .inr (11, [.ref (aMo 1), .int (zI mo_taped), .ref (aMo 3), .ref (aMo 4), .ref (aMo 5), .ref (aMo 6), .ref (aMo 7), .ref (aMo 8), .ref (aMo 9), .ref (aMo 10), .ref (aMo 11), .ref (aMo 12), .ref (aMo 13), .ref (aMo 14), .ref (aMo 15), .ref (aMo 16), .int (zI mo_size), .int (zI mo_runs), .ref (aMo 19), .ref (aMo 20), .ref (aMo 21), .int (zI mo_found), .int (zI mo_counted), .int (zI mo_isParted), .ref (aMo 25), .ref (aMo 26), .ref (aMo 27), .ref (aMo 28), .ref (aMo 29), .int (zI mo_maybes), .int (zI mo_days), .int (zI mo_over2), .int (zI mo_longer), .ref (aMo 34)])), ((aMo 3), .inl (ca 0, 11, .inl (zA mo_rules))), ((aMo 14), .inl (ca 0, 20161, .inl (zA mo_driven))), ((aMo 15), .inl (ca 0, 60, .inl (zA mo_runFrom))), ((aMo 16), .inl (ca 0, 60, .inl (zA mo_runTo))), ((aMo 25), .inl (ca 0, 12, .inl (zA mo_maybe))), ((aMo 26), .inl (ca 0, 62, .inl (zA mo_dayFrom))), ((aMo 27), .inl (ca 0, 62, .inl (zA mo_dayTo))), ((aMo 28), .inl (ca 0, 62, .inl (zA mo_dayRun))), ((aMo 29), .inl (ca 3, 62, .inl (zA mo_isLonger)))]) (k' := 0) (n' := 0) (ws' := fun _ => [((aMo 0), .inr (11, [.ref (aMo 1), .int (zI mo_taped), .ref (aMo 3), .ref (aMo 4), .ref (aMo 5), .ref (aMo 6), .ref (aMo 7), .ref (aMo 8), .ref (aMo 9), .ref (aMo 10), .ref (aMo 11), .ref (aMo 12), .ref (aMo 13), .ref (aMo 14), .ref (aMo 15), .ref (aMo 16), .int (zI mo_size), .int (zI mo_runs), .ref (aMo 19), .ref (aMo 20), .ref (aMo 21), .int (zI mo_found), .int (zI mo_counted), .int (zI mo_isParted), .ref (aMo 25), .ref (aMo 26), .ref (aMo 27), .ref (aMo 28), .ref (aMo 29), .int (zI mo_maybes), .int (zI mo_days), .int (zI mo_over2), .int (zI mo_longer), .ref (aMo 34)])), ((aMo 3), .inl (ca 0, 11, .inl (zA mo_rules))), ((aMo 14), .inl (ca 0, 20161, .inl (zA mo_driven))), ((aMo 15), .inl (ca 0, 60, .inl (zA mo_runFrom))), ((aMo 16), .inl (ca 0, 60, .inl (zA mo_runTo))), ((aMo 25), .inl (ca 0, 12, .inl (zA mo_maybe))), ((aMo 26), .inl (ca 0, 62, .inl (zA mo_dayFrom))), ((aMo 27), .inl (ca 0, 62, .inl (zA mo_dayTo))), ((aMo 28), .inl (ca 0, 62, .inl (zA mo_dayRun))), ((aMo 29), .inl (ca 3, 62, .inl (zA mo_isLonger)))]) (st' := [.int (zI r_90)]) (kX11_bits l D ca v4 r_90 hc_90) wml_RX11_192 wst_X11_bits win_RX11 wco_X11_bits (nA := 1) rfl (by decide +kernel)  ⟨(Nat.le_of_ble_eq_true rfl), (Nat.le_of_ble_eq_true rfl)⟩ (Nat.le_refl _) (Nat.le_refl _) rfl (by decide) dX11_chooses_90 [] [0, 1, 2, 3, 4, 5, 6, 7, 8, 9] rfl rfl rfl (by decide) (by decide) (by decide) rfl rfl (fun _ => rfl) rfl (fun _ => ?_)
            refine g_iload_n (pc := 93) C 2 dX11_chooses_93 rfl rfl ?_
            obtain ⟨r_94, hc_94, hf⟩ := Option.bind_eq_some_iff.mp hf
            refine g_callS (pc := 94) C hl0 (wr := [((aMo 0), .inr (11, [.ref (aMo 1), .int (zI mo_taped), .ref (aMo 3), .ref (aMo 4), .ref (aMo 5), .ref (aMo 6), .ref (aMo 7), .ref (aMo 8), .ref (aMo 9), .ref (aMo 10), .ref (aMo 11), .ref (aMo 12), .ref (aMo 13), .ref (aMo 14), .ref (aMo 15), .ref (aMo 16), .int (zI mo_size), .int (zI mo_runs), .ref (aMo 19), .ref (aMo 20), .ref (aMo 21), .int (zI mo_found), .int (zI mo_counted), .int (zI mo_isParted), .ref (aMo 25), .ref (aMo 26), .ref (aMo 27), .ref (aMo 28), .ref (aMo 29), .int (zI mo_maybes), .int (zI mo_days), .int (zI mo_over2), .int (zI mo_longer), .ref (aMo 34)])), ((aMo 3), .inl (ca 0, 11, .inl (zA mo_rules))), ((aMo 14), .inl (ca 0, 20161, .inl (zA mo_driven))), ((aMo 15), .inl (ca 0, 60, .inl (zA mo_runFrom))), ((aMo 16), .inl (ca 0, 60, .inl (zA mo_runTo))), ((aMo 25), .inl (ca 0, 12, .inl (zA mo_maybe))), ((aMo 26), .inl (ca 0, 62, .inl (zA mo_dayFrom))), ((aMo 27), .inl (ca 0, 62, .inl (zA mo_dayTo))), ((aMo 28), .inl (ca 0, 62, .inl (zA mo_dayRun))), ((aMo 29), .inl (ca 3, 62, .inl (zA mo_isLonger)))]) (k' := 0) (n' := 0) (ws' := fun _ => [((aMo 0), .inr (11, [.ref (aMo 1), .int (zI mo_taped), .ref (aMo 3), .ref (aMo 4), .ref (aMo 5), .ref (aMo 6), .ref (aMo 7), .ref (aMo 8), .ref (aMo 9), .ref (aMo 10), .ref (aMo 11), .ref (aMo 12), .ref (aMo 13), .ref (aMo 14), .ref (aMo 15), .ref (aMo 16), .int (zI mo_size), .int (zI mo_runs), .ref (aMo 19), .ref (aMo 20), .ref (aMo 21), .int (zI mo_found), .int (zI mo_counted), .int (zI mo_isParted), .ref (aMo 25), .ref (aMo 26), .ref (aMo 27), .ref (aMo 28), .ref (aMo 29), .int (zI mo_maybes), .int (zI mo_days), .int (zI mo_over2), .int (zI mo_longer), .ref (aMo 34)])), ((aMo 3), .inl (ca 0, 11, .inl (zA mo_rules))), ((aMo 14), .inl (ca 0, 20161, .inl (zA mo_driven))), ((aMo 15), .inl (ca 0, 60, .inl (zA mo_runFrom))), ((aMo 16), .inl (ca 0, 60, .inl (zA mo_runTo))), ((aMo 25), .inl (ca 0, 12, .inl (zA mo_maybe))), ((aMo 26), .inl (ca 0, 62, .inl (zA mo_dayFrom))), ((aMo 27), .inl (ca 0, 62, .inl (zA mo_dayTo))), ((aMo 28), .inl (ca 0, 62, .inl (zA mo_dayRun))), ((aMo 29), .inl (ca 3, 62, .inl (zA mo_isLonger)))]) (st' := [.int (zI r_94), .int (zI r_90)]) (kX11_bits l D ca v1 r_94 hc_94) wml_RX11_192 wst_X11_bits win_RX11 wco_X11_bits (nA := 1) rfl (by decide +kernel)  ⟨(Nat.le_of_ble_eq_true rfl), (Nat.le_of_ble_eq_true rfl)⟩ (Nat.le_refl _) (Nat.le_refl _) rfl (by decide) dX11_chooses_94 [] [0, 1, 2, 3, 4, 5, 6, 7, 8, 9] rfl rfl rfl (by decide) (by decide) (by decide) rfl rfl (fun _ => rfl) rfl (fun _ => ?_)
            refine g_icmp_ge (pc := 97) C (tgt := 104) dX11_chooses_97 (by decide) hf (fun hf => ?_) (fun hf => ?_)
            · refine g_iconst (pc := 104) C dX11_chooses_104 ?_
              refine g_sub [0, 1, 2, 3, 4, 5, 6, 7, 8, 9] [1, 2, 3, 4, 5] (by decide) rfl rfl rfl ?_
              exact H105 _ _ _ _ _ _ _ _ _ _ _ _ _ _ hf
            · refine g_iconst (pc := 100) C dX11_chooses_100 ?_
              refine g_goto (pc := 101) C (tgt := 105) dX11_chooses_101 (by decide) ?_
              refine g_sub [0, 1, 2, 3, 4, 5, 6, 7, 8, 9] [1, 2, 3, 4, 5] (by decide) rfl rfl rfl ?_
              exact H105 _ _ _ _ _ _ _ _ _ _ _ _ _ _ hf
      intro v1 v2 v3 v4 mo_dayFrom mo_dayTo mo_dayRun mo_isLonger mo_days mo_over2 mo_longer hf
      rw [zlp_s] at hf
      unfold fX11_chooses_24 at hf
      dsimp only at hf
      refine g_iload (pc := 24) C 4 dX11_chooses_24 rfl ?_
      refine g_iconst (pc := 26) C dX11_chooses_26 ?_
      refine g_aload_n (pc := 27) C 0 dX11_chooses_27 rfl rfl ?_
      refine g_get (pc := 28) C zf_X11_151 0 rfl rfl dX11_chooses_28 ?_
      refine g_ishl (pc := 31) C dX11_chooses_31 ?_
      refine g_icmp_ge (pc := 32) C (tgt := 177) dX11_chooses_32 (by decide) hf (fun hf => ?_) (fun hf => ?_)
      · refine g_aload_n (pc := 177) C 0 dX11_chooses_177 rfl rfl ?_
        refine g_iload_n (pc := 178) C 1 dX11_chooses_178 rfl rfl ?_
        obtain ⟨⟨mo_dayFrom_179, mo_dayTo_179, mo_dayRun_179, mo_isLonger_179, mo_days_179, mo_over2_179, mo_longer_179⟩, hc_179, hf⟩ := Option.bind_eq_some_iff.mp hf
        dsimp only at hf
        refine g_callV (pc := 179) C hl0 (wr := []) (k' := 0) (n' := 0) (ws' := fun _ => [((aMo 0), .inr (11, [.ref (aMo 1), .int (zI mo_taped), .ref (aMo 3), .ref (aMo 4), .ref (aMo 5), .ref (aMo 6), .ref (aMo 7), .ref (aMo 8), .ref (aMo 9), .ref (aMo 10), .ref (aMo 11), .ref (aMo 12), .ref (aMo 13), .ref (aMo 14), .ref (aMo 15), .ref (aMo 16), .int (zI mo_size), .int (zI mo_runs), .ref (aMo 19), .ref (aMo 20), .ref (aMo 21), .int (zI mo_found), .int (zI mo_counted), .int (zI mo_isParted), .ref (aMo 25), .ref (aMo 26), .ref (aMo 27), .ref (aMo 28), .ref (aMo 29), .int (zI mo_maybes), .int (zI mo_days_179), .int (zI mo_over2_179), .int (zI mo_longer_179), .ref (aMo 34)])), ((aMo 3), .inl (ca 0, 11, .inl (zA mo_rules))), ((aMo 14), .inl (ca 0, 20161, .inl (zA mo_driven))), ((aMo 15), .inl (ca 0, 60, .inl (zA mo_runFrom))), ((aMo 16), .inl (ca 0, 60, .inl (zA mo_runTo))), ((aMo 25), .inl (ca 0, 12, .inl (zA mo_maybe))), ((aMo 26), .inl (ca 0, 62, .inl (zA mo_dayFrom_179))), ((aMo 27), .inl (ca 0, 62, .inl (zA mo_dayTo_179))), ((aMo 28), .inl (ca 0, 62, .inl (zA mo_dayRun_179))), ((aMo 29), .inl (ca 3, 62, .inl (zA mo_isLonger_179)))]) (st' := []) (kX11_reckons l D ca aMo mo_taped mo_rules mo_driven mo_runFrom mo_runTo mo_size mo_runs mo_found mo_counted mo_isParted mo_maybe mo_dayFrom mo_dayTo mo_dayRun mo_isLonger mo_maybes mo_days mo_over2 mo_longer v1 mo_dayFrom_179 mo_dayTo_179 mo_dayRun_179 mo_isLonger_179 mo_days_179 mo_over2_179 mo_longer_179 hc_179) wml_RX11_186 wim_X11_reckons wse_X11_reckons win_RX11 wco_X11_reckons (nA := 1) rfl (by decide +kernel)  ⟨(Nat.le_of_ble_eq_true rfl), (Nat.le_of_ble_eq_true rfl)⟩ (Nat.le_refl _) (Nat.le_refl _) rfl (by decide) dX11_chooses_179 0 11 rfl rfl rfl [0, 1, 2, 3, 4, 5, 6, 7, 8, 9] [] rfl rfl rfl (by decide) (by decide) (by decide) rfl rfl (fun _ => rfl) rfl (fun _ => ?_)
        cases hf
        exact g_vret (pc := 182) C E (fun _ => 0) [0, 1, 2, 3, 4, 5, 6, 7, 8, 9] (by decide) rfl rfl (Nat.le_refl _) (Nat.le_refl _) dX11_chooses_182
      · refine g_aload_n (pc := 35) C 0 dX11_chooses_35 rfl rfl ?_
        refine g_iload (pc := 36) C 4 dX11_chooses_36 rfl ?_
        obtain ⟨r_38, hc_38, hf⟩ := Option.bind_eq_some_iff.mp hf
        refine g_callV (pc := 38) C hl0 (wr := [((aMo 14), .inl (ca 0, 20161, .inl (zA mo_driven))), ((aMo 15), .inl (ca 0, 60, .inl (zA mo_runFrom))), ((aMo 26), .inl (ca 0, 62, .inl (zA mo_dayFrom))), ((aMo 27), .inl (ca 0, 62, .inl (zA mo_dayTo))), ((aMo 28), .inl (ca 0, 62, .inl (zA mo_dayRun))), ((aMo 29), .inl (ca 3, 62, .inl (zA mo_isLonger)))]) (k' := 0) (n' := 0) (ws' := fun _ => [((aMo 14), .inl (ca 0, 20161, .inl (zA mo_driven))), ((aMo 15), .inl (ca 0, 60, .inl (zA mo_runFrom))), ((aMo 26), .inl (ca 0, 62, .inl (zA mo_dayFrom))), ((aMo 27), .inl (ca 0, 62, .inl (zA mo_dayTo))), ((aMo 28), .inl (ca 0, 62, .inl (zA mo_dayRun))), ((aMo 29), .inl (ca 3, 62, .inl (zA mo_isLonger))), ((aMo 0), .inr (11, [.ref (aMo 1), .int (zI mo_taped), .ref (aMo 3), .ref (aMo 4), .ref (aMo 5), .ref (aMo 6), .ref (aMo 7), .ref (aMo 8), .ref (aMo 9), .ref (aMo 10), .ref (aMo 11), .ref (aMo 12), .ref (aMo 13), .ref (aMo 14), .ref (aMo 15), .ref (aMo 16), .int (zI mo_size), .int (zI mo_runs), .ref (aMo 19), .ref (aMo 20), .ref (aMo 21), .int (zI mo_found), .int (zI mo_counted), .int (zI mo_isParted), .ref (aMo 25), .ref (aMo 26), .ref (aMo 27), .ref (aMo 28), .ref (aMo 29), .int (zI mo_maybes), .int (zI mo_days), .int (zI mo_over2), .int (zI mo_longer), .ref (aMo 34)])), ((aMo 3), .inl (ca 0, 11, .inl (zA mo_rules))), ((aMo 16), .inl (ca 0, 60, .inl (zA mo_runTo))), ((aMo 25), .inl (ca 0, 12, .inl (zA mo_maybe)))]) (st' := [.int (zI r_38)]) (kX11_mayBe l D ca aMo mo_taped mo_rules mo_runTo mo_size mo_runs mo_found mo_counted mo_isParted mo_maybe mo_maybes mo_days mo_over2 mo_longer v4 r_38 hc_38) wml_RX11_189 wim_X11_mayBe wse_X11_mayBe win_RX11 wco_X11_mayBe (nA := 1) rfl (by decide +kernel)  ⟨(Nat.le_of_ble_eq_true rfl), (Nat.le_of_ble_eq_true rfl)⟩ (Nat.le_refl _) (Nat.le_refl _) rfl (by decide) dX11_chooses_38 0 11 rfl rfl rfl [0, 1, 4, 5] [2, 3, 6, 7, 8, 9] rfl rfl rfl (by decide) (by decide) (by decide) rfl rfl (fun _ => rfl) rfl (fun _ => ?_)
        refine g_if_ne (pc := 41) C (tgt := 47) dX11_chooses_41 (by decide) hf (fun hf => ?_) (fun hf => ?_)
        · refine g_aload_n (pc := 47) C 0 dX11_chooses_47 rfl rfl ?_
          refine g_iload (pc := 48) C 4 dX11_chooses_48 rfl ?_
          obtain ⟨⟨mo_dayFrom_50, mo_dayTo_50, mo_dayRun_50, mo_isLonger_50, mo_days_50, mo_over2_50, mo_longer_50⟩, hc_50, hf⟩ := Option.bind_eq_some_iff.mp hf
          dsimp only at hf
          refine g_callV (pc := 50) C hl0 (wr := []) (k' := 0) (n' := 0) (ws' := fun _ => [((aMo 0), .inr (11, [.ref (aMo 1), .int (zI mo_taped), .ref (aMo 3), .ref (aMo 4), .ref (aMo 5), .ref (aMo 6), .ref (aMo 7), .ref (aMo 8), .ref (aMo 9), .ref (aMo 10), .ref (aMo 11), .ref (aMo 12), .ref (aMo 13), .ref (aMo 14), .ref (aMo 15), .ref (aMo 16), .int (zI mo_size), .int (zI mo_runs), .ref (aMo 19), .ref (aMo 20), .ref (aMo 21), .int (zI mo_found), .int (zI mo_counted), .int (zI mo_isParted), .ref (aMo 25), .ref (aMo 26), .ref (aMo 27), .ref (aMo 28), .ref (aMo 29), .int (zI mo_maybes), .int (zI mo_days_50), .int (zI mo_over2_50), .int (zI mo_longer_50), .ref (aMo 34)])), ((aMo 3), .inl (ca 0, 11, .inl (zA mo_rules))), ((aMo 14), .inl (ca 0, 20161, .inl (zA mo_driven))), ((aMo 15), .inl (ca 0, 60, .inl (zA mo_runFrom))), ((aMo 16), .inl (ca 0, 60, .inl (zA mo_runTo))), ((aMo 25), .inl (ca 0, 12, .inl (zA mo_maybe))), ((aMo 26), .inl (ca 0, 62, .inl (zA mo_dayFrom_50))), ((aMo 27), .inl (ca 0, 62, .inl (zA mo_dayTo_50))), ((aMo 28), .inl (ca 0, 62, .inl (zA mo_dayRun_50))), ((aMo 29), .inl (ca 3, 62, .inl (zA mo_isLonger_50)))]) (st' := []) (kX11_reckons l D ca aMo mo_taped mo_rules mo_driven mo_runFrom mo_runTo mo_size mo_runs mo_found mo_counted mo_isParted mo_maybe mo_dayFrom mo_dayTo mo_dayRun mo_isLonger mo_maybes mo_days mo_over2 mo_longer v4 mo_dayFrom_50 mo_dayTo_50 mo_dayRun_50 mo_isLonger_50 mo_days_50 mo_over2_50 mo_longer_50 hc_50) wml_RX11_186 wim_X11_reckons wse_X11_reckons win_RX11 wco_X11_reckons (nA := 1) rfl (by decide +kernel)  ⟨(Nat.le_of_ble_eq_true rfl), (Nat.le_of_ble_eq_true rfl)⟩ (Nat.le_refl _) (Nat.le_refl _) rfl (by decide) dX11_chooses_50 6 11 rfl rfl rfl [6, 7, 0, 1, 8, 9, 2, 3, 4, 5] [] rfl rfl rfl (by decide) (by decide) (by decide) rfl rfl (fun _ => rfl) rfl (fun _ => ?_)
          refine g_aload_n (pc := 53) C 0 dX11_chooses_53 rfl rfl ?_
          refine g_get (pc := 54) C zf_X11_177 0 rfl rfl dX11_chooses_54 ?_
          refine g_iload_n (pc := 57) C 2 dX11_chooses_57 rfl rfl ?_
          refine g_icmp_ge (pc := 58) C (tgt := 65) dX11_chooses_58 (by decide) hf (fun hf => ?_) (fun hf => ?_)
          · refine g_iconst (pc := 65) C dX11_chooses_65 ?_
            exact H66 _ _ _ _ _ _ _ _ _ _ _ _ _ _ hf
          · refine g_iconst (pc := 61) C dX11_chooses_61 ?_
            refine g_goto (pc := 62) C (tgt := 66) dX11_chooses_62 (by decide) ?_
            exact H66 _ _ _ _ _ _ _ _ _ _ _ _ _ _ hf
        · refine g_goto (pc := 44) C (tgt := 171) dX11_chooses_44 (by decide) ?_
          refine g_sub [6, 7, 0, 1, 8, 9, 2, 3, 4, 5] [0, 1, 2, 3, 4] (by decide) rfl rfl rfl ?_
          exact H171 _ _ _ _ _ _ _ _ _ _ _ _ _ hf
  unfold fX11_chooses at hf
  refine g_aload_n (pc := 0) C 0 dX11_chooses_0 rfl rfl ?_
  obtain ⟨⟨mo_maybe_1, mo_maybes_1⟩, hc_1, hf⟩ := Option.bind_eq_some_iff.mp hf
  dsimp only at hf
  refine g_callV (pc := 1) C hl0 (wr := [((aMo 14), .inl (ca 0, 20161, .inl (zA mo_driven))), ((aMo 26), .inl (ca 0, 62, .inl (zA mo_dayFrom))), ((aMo 27), .inl (ca 0, 62, .inl (zA mo_dayTo))), ((aMo 28), .inl (ca 0, 62, .inl (zA mo_dayRun))), ((aMo 29), .inl (ca 3, 62, .inl (zA mo_isLonger)))]) (k' := 0) (n' := 0) (ws' := fun _ => [((aMo 14), .inl (ca 0, 20161, .inl (zA mo_driven))), ((aMo 26), .inl (ca 0, 62, .inl (zA mo_dayFrom))), ((aMo 27), .inl (ca 0, 62, .inl (zA mo_dayTo))), ((aMo 28), .inl (ca 0, 62, .inl (zA mo_dayRun))), ((aMo 29), .inl (ca 3, 62, .inl (zA mo_isLonger))), ((aMo 0), .inr (11, [.ref (aMo 1), .int (zI mo_taped), .ref (aMo 3), .ref (aMo 4), .ref (aMo 5), .ref (aMo 6), .ref (aMo 7), .ref (aMo 8), .ref (aMo 9), .ref (aMo 10), .ref (aMo 11), .ref (aMo 12), .ref (aMo 13), .ref (aMo 14), .ref (aMo 15), .ref (aMo 16), .int (zI mo_size), .int (zI mo_runs), .ref (aMo 19), .ref (aMo 20), .ref (aMo 21), .int (zI mo_found), .int (zI mo_counted), .int (zI mo_isParted), .ref (aMo 25), .ref (aMo 26), .ref (aMo 27), .ref (aMo 28), .ref (aMo 29), .int (zI mo_maybes_1), .int (zI mo_days), .int (zI mo_over2), .int (zI mo_longer), .ref (aMo 34)])), ((aMo 3), .inl (ca 0, 11, .inl (zA mo_rules))), ((aMo 15), .inl (ca 0, 60, .inl (zA mo_runFrom))), ((aMo 16), .inl (ca 0, 60, .inl (zA mo_runTo))), ((aMo 25), .inl (ca 0, 12, .inl (zA mo_maybe_1)))]) (st' := []) (kX11_finds l D ca aMo mo_taped mo_rules mo_runFrom mo_runTo mo_size mo_runs mo_found mo_counted mo_isParted mo_maybe mo_maybes mo_days mo_over2 mo_longer mo_maybe_1 mo_maybes_1 hc_1) wml_RX11_183 wim_X11_finds wse_X11_finds win_RX11 wco_X11_finds (nA := 0) rfl (by decide +kernel)  ⟨(Nat.le_of_ble_eq_true rfl), (Nat.le_of_ble_eq_true rfl)⟩ (Nat.le_refl _) (Nat.le_refl _) rfl (by decide) dX11_chooses_1 0 11 rfl rfl rfl [0, 1, 3, 4, 5] [2, 6, 7, 8, 9] rfl rfl rfl (by decide) (by decide) (by decide) rfl rfl (fun _ => rfl) rfl (fun _ => ?_)
  refine g_iconst (pc := 4) C dX11_chooses_4 ?_
  refine g_istore_n (pc := 5) C (lv' := [(1, .int (zI 0)), (0, .ref (aMo 0))]) dX11_chooses_5 rfl (Nat.le_of_ble_eq_true rfl) rfl ?_
  refine g_aload_n (pc := 6) C 1 dX11_chooses_6 rfl rfl ?_
  refine g_iconst (pc := 7) C dX11_chooses_7 ?_
  obtain ⟨⟨mo_dayFrom_8, mo_dayTo_8, mo_dayRun_8, mo_isLonger_8, mo_days_8, mo_over2_8, mo_longer_8⟩, hc_8, hf⟩ := Option.bind_eq_some_iff.mp hf
  dsimp only at hf
  refine g_callV (pc := 8) C hl0 (wr := []) (k' := 0) (n' := 0) (ws' := fun _ => [((aMo 0), .inr (11, [.ref (aMo 1), .int (zI mo_taped), .ref (aMo 3), .ref (aMo 4), .ref (aMo 5), .ref (aMo 6), .ref (aMo 7), .ref (aMo 8), .ref (aMo 9), .ref (aMo 10), .ref (aMo 11), .ref (aMo 12), .ref (aMo 13), .ref (aMo 14), .ref (aMo 15), .ref (aMo 16), .int (zI mo_size), .int (zI mo_runs), .ref (aMo 19), .ref (aMo 20), .ref (aMo 21), .int (zI mo_found), .int (zI mo_counted), .int (zI mo_isParted), .ref (aMo 25), .ref (aMo 26), .ref (aMo 27), .ref (aMo 28), .ref (aMo 29), .int (zI mo_maybes_1), .int (zI mo_days_8), .int (zI mo_over2_8), .int (zI mo_longer_8), .ref (aMo 34)])), ((aMo 3), .inl (ca 0, 11, .inl (zA mo_rules))), ((aMo 14), .inl (ca 0, 20161, .inl (zA mo_driven))), ((aMo 15), .inl (ca 0, 60, .inl (zA mo_runFrom))), ((aMo 16), .inl (ca 0, 60, .inl (zA mo_runTo))), ((aMo 25), .inl (ca 0, 12, .inl (zA mo_maybe_1))), ((aMo 26), .inl (ca 0, 62, .inl (zA mo_dayFrom_8))), ((aMo 27), .inl (ca 0, 62, .inl (zA mo_dayTo_8))), ((aMo 28), .inl (ca 0, 62, .inl (zA mo_dayRun_8))), ((aMo 29), .inl (ca 3, 62, .inl (zA mo_isLonger_8)))]) (st' := []) (kX11_reckons l D ca aMo mo_taped mo_rules mo_driven mo_runFrom mo_runTo mo_size mo_runs mo_found mo_counted mo_isParted mo_maybe_1 mo_dayFrom mo_dayTo mo_dayRun mo_isLonger mo_maybes_1 mo_days mo_over2 mo_longer 0 mo_dayFrom_8 mo_dayTo_8 mo_dayRun_8 mo_isLonger_8 mo_days_8 mo_over2_8 mo_longer_8 hc_8) wml_RX11_186 wim_X11_reckons wse_X11_reckons win_RX11 wco_X11_reckons (nA := 1) rfl (by decide +kernel)  ⟨(Nat.le_of_ble_eq_true rfl), (Nat.le_of_ble_eq_true rfl)⟩ (Nat.le_refl _) (Nat.le_refl _) rfl (by decide) dX11_chooses_8 5 11 rfl rfl rfl [5, 6, 0, 7, 8, 9, 1, 2, 3, 4] [] rfl rfl rfl (by decide) (by decide) (by decide) rfl rfl (fun _ => rfl) rfl (fun _ => ?_)
  refine g_aload_n (pc := 11) C 1 dX11_chooses_11 rfl rfl ?_
  refine g_get (pc := 12) C zf_X11_177 0 rfl rfl dX11_chooses_12 ?_
  refine g_istore_n (pc := 15) C (lv' := [(2, .int (zI mo_over2_8)), (1, .int (zI 0)), (0, .ref (aMo 0))]) dX11_chooses_15 rfl (Nat.le_of_ble_eq_true rfl) rfl ?_
  refine g_aload_n (pc := 16) C 2 dX11_chooses_16 rfl rfl ?_
  refine g_get (pc := 17) C zf_X11_164 0 rfl rfl dX11_chooses_17 ?_
  refine g_istore_n (pc := 20) C (lv' := [(3, .int (zI mo_longer_8)), (2, .int (zI mo_over2_8)), (1, .int (zI 0)), (0, .ref (aMo 0))]) dX11_chooses_20 rfl (Nat.le_of_ble_eq_true rfl) rfl ?_
  refine g_iconst (pc := 21) C dX11_chooses_21 ?_
  refine g_istore (pc := 22) C (lv' := [(4, .int (zI 1)), (3, .int (zI mo_longer_8)), (2, .int (zI mo_over2_8)), (1, .int (zI 0)), (0, .ref (aMo 0))]) dX11_chooses_22 (Nat.le_of_ble_eq_true rfl) rfl ?_
  refine g_sub [0, 1, 2, 3, 4, 5, 6, 7, 8, 9] [4, 3, 2, 1, 0] (by decide) rfl rfl rfl ?_
  exact H24 _ _ _ _ _ _ _ _ _ _ _ _ _ _ hf
set_option maxRecDepth 100000 in
theorem kX11_goesAbove (l : Launch) (D : va_G) (ca : Nat → ClassId) (aMo : Nat → Nat) (mo_taped : Int) (mo_driven : Nat → Int) (mo_size : Int) (mo_runs : Int) (mo_found : Int) (mo_counted : Int) (mo_isParted : Int) (mo_maybes : Int) (mo_days : Int) (mo_over2 : Int) (mo_longer : Int) (v1 : Int) (v2 : Int) (r_o : Int)
    (hf : fX11_goesAbove v1 v2 mo_driven = some r_o) : Zc l D ca yX11_goesAbove cX11_goesAbove 4 (some .int) { frames := 0, cells := 0, slots := 0, locals := 0 } [.ref (aMo 0), .int (zI v1), .int (zI v2)] [((aMo 0), .inr (11, [.ref (aMo 1), .int (zI mo_taped), .ref (aMo 3), .ref (aMo 4), .ref (aMo 5), .ref (aMo 6), .ref (aMo 7), .ref (aMo 8), .ref (aMo 9), .ref (aMo 10), .ref (aMo 11), .ref (aMo 12), .ref (aMo 13), .ref (aMo 14), .ref (aMo 15), .ref (aMo 16), .int (zI mo_size), .int (zI mo_runs), .ref (aMo 19), .ref (aMo 20), .ref (aMo 21), .int (zI mo_found), .int (zI mo_counted), .int (zI mo_isParted), .ref (aMo 25), .ref (aMo 26), .ref (aMo 27), .ref (aMo 28), .ref (aMo 29), .int (zI mo_maybes), .int (zI mo_days), .int (zI mo_over2), .int (zI mo_longer), .ref (aMo 34)])), ((aMo 14), .inl (ca 0, 20161, .inl (zA mo_driven)))] (some (.int (zI r_o))) (fun _ => [((aMo 0), .inr (11, [.ref (aMo 1), .int (zI mo_taped), .ref (aMo 3), .ref (aMo 4), .ref (aMo 5), .ref (aMo 6), .ref (aMo 7), .ref (aMo 8), .ref (aMo 9), .ref (aMo 10), .ref (aMo 11), .ref (aMo 12), .ref (aMo 13), .ref (aMo 14), .ref (aMo 15), .ref (aMo 16), .int (zI mo_size), .int (zI mo_runs), .ref (aMo 19), .ref (aMo 20), .ref (aMo 21), .int (zI mo_found), .int (zI mo_counted), .int (zI mo_isParted), .ref (aMo 25), .ref (aMo 26), .ref (aMo 27), .ref (aMo 28), .ref (aMo 29), .int (zI mo_maybes), .int (zI mo_days), .int (zI mo_over2), .int (zI mo_longer), .ref (aMo 34)])), ((aMo 14), .inl (ca 0, 20161, .inl (zA mo_driven)))]) := by
  refine ctr_of (lv := [(0, .ref (aMo 0)), (1, .int (zI v1)), (2, .int (zI v2))]) (by decide +kernel) (Nat.le_of_ble_eq_true rfl) rfl (fun Γ hl0 C E hnm => ?_)
  have H2 : ∀  (n2 : Nat) (v3 : Int), zlp (fX11_goesAbove_2 v1 v2 mo_driven) n2 v3 = some r_o → Zd D Γ 0 0 [((aMo 0), .inr (11, [.ref (aMo 1), .int (zI mo_taped), .ref (aMo 3), .ref (aMo 4), .ref (aMo 5), .ref (aMo 6), .ref (aMo 7), .ref (aMo 8), .ref (aMo 9), .ref (aMo 10), .ref (aMo 11), .ref (aMo 12), .ref (aMo 13), .ref (aMo 14), .ref (aMo 15), .ref (aMo 16), .int (zI mo_size), .int (zI mo_runs), .ref (aMo 19), .ref (aMo 20), .ref (aMo 21), .int (zI mo_found), .int (zI mo_counted), .int (zI mo_isParted), .ref (aMo 25), .ref (aMo 26), .ref (aMo 27), .ref (aMo 28), .ref (aMo 29), .int (zI mo_maybes), .int (zI mo_days), .int (zI mo_over2), .int (zI mo_longer), .ref (aMo 34)])), ((aMo 14), .inl (ca 0, 20161, .inl (zA mo_driven)))] 2 [(0, .ref (aMo 0)), (1, .int (zI v1)), (2, .int (zI v2)), (3, .int (zI v3))] [] := by
    intro n2
    induction n2 with
    | zero =>
      intro v3 hf
      exact zno hf
    | succ n2 ih2 =>
      intro v3 hf
      rw [zlp_s] at hf
      unfold fX11_goesAbove_2 at hf
      refine g_aload_n (pc := 2) C 0 dX11_goesAbove_2 rfl rfl ?_
      refine g_get (pc := 3) C zf_X11_47 0 rfl rfl dX11_goesAbove_3 ?_
      refine g_iload_n (pc := 6) C 3 dX11_goesAbove_6 rfl rfl ?_
      refine g_iconst (pc := 7) C dX11_goesAbove_7 ?_
      refine g_iadd (pc := 8) C dX11_goesAbove_8 ?_
      refine g_iald (pc := 9) C (N := 20161) 1 rfl rfl (Nat.le_of_ble_eq_true rfl) dX11_goesAbove_9 hf (fun hf => ?_)
      refine g_aload_n (pc := 10) C 0 dX11_goesAbove_10 rfl rfl ?_
      refine g_get (pc := 11) C zf_X11_47 0 rfl rfl dX11_goesAbove_11 ?_
      refine g_iload_n (pc := 14) C 1 dX11_goesAbove_14 rfl rfl ?_
      refine g_iald (pc := 15) C (N := 20161) 1 rfl rfl (Nat.le_of_ble_eq_true rfl) dX11_goesAbove_15 hf (fun hf => ?_)
      refine g_isub (pc := 16) C dX11_goesAbove_16 ?_
      refine g_iload_n (pc := 17) C 2 dX11_goesAbove_17 rfl rfl ?_
      refine g_icmp_gt (pc := 18) C (tgt := 28) dX11_goesAbove_18 (by decide) hf (fun hf => ?_) (fun hf => ?_)
      · refine g_iload_n (pc := 28) C 3 dX11_goesAbove_28 rfl rfl ?_
        cases hf
        exact g_iret (pc := 29) C E (fun _ => 0) [0, 1] (by decide) rfl rfl (Nat.le_refl _) (Nat.le_refl _) dX11_goesAbove_29
      · refine g_iload_n (pc := 21) C 3 dX11_goesAbove_21 rfl rfl ?_
        refine g_iconst (pc := 22) C dX11_goesAbove_22 ?_
        refine g_iadd (pc := 23) C dX11_goesAbove_23 ?_
        refine g_istore_n (pc := 24) C (lv' := [(3, .int (zI (v3 + 1))), (0, .ref (aMo 0)), (1, .int (zI v1)), (2, .int (zI v2))]) dX11_goesAbove_24 rfl (Nat.le_of_ble_eq_true rfl) rfl ?_
        refine g_goto (pc := 25) C (tgt := 2) dX11_goesAbove_25 (by decide) ?_
        refine g_sub [0, 1] [1, 2, 3, 0] (by decide) rfl rfl rfl ?_
        exact ih2 _ hf
  unfold fX11_goesAbove at hf
  refine g_iload_n (pc := 0) C 1 dX11_goesAbove_0 rfl rfl ?_
  refine g_istore_n (pc := 1) C (lv' := [(3, .int (zI v1)), (0, .ref (aMo 0)), (1, .int (zI v1)), (2, .int (zI v2))]) dX11_goesAbove_1 rfl (Nat.le_of_ble_eq_true rfl) rfl ?_
  refine g_sub [0, 1] [1, 2, 3, 0] (by decide) rfl rfl rfl ?_
  exact H2 _ _ hf
set_option maxRecDepth 100000 in
theorem kX11_breaksLaw (l : Launch) (D : va_G) (ca : Nat → ClassId) (aMo : Nat → Nat) (mo_taped : Int) (mo_rules : Nat → Int) (mo_acts : Nat → Int) (mo_kindOf : Nat → Int) (mo_lengthOf : Nat → Int) (mo_laid : Nat → Int) (mo_driven : Nat → Int) (mo_runFrom : Nat → Int) (mo_runTo : Nat → Int) (mo_size : Int) (mo_runs : Int) (mo_foundAt : Nat → Int) (mo_foundRule : Nat → Int) (mo_foundMany : Nat → Int) (mo_found : Int) (mo_counted : Int) (mo_isParted : Int) (mo_maybe : Nat → Int) (mo_dayFrom : Nat → Int) (mo_dayTo : Nat → Int) (mo_dayRun : Nat → Int) (mo_isLonger : Nat → Int) (mo_maybes : Int) (mo_days : Int) (mo_over2 : Int) (mo_longer : Int) (v1 : Int) (v2 : Int) (mo_laid_o : Nat → Int) (mo_driven_o : Nat → Int) (mo_runFrom_o : Nat → Int) (mo_runTo_o : Nat → Int) (mo_size_o : Int) (mo_runs_o : Int) (mo_foundAt_o : Nat → Int) (mo_foundRule_o : Nat → Int) (mo_foundMany_o : Nat → Int) (mo_found_o : Int) (mo_counted_o : Int) (mo_isParted_o : Int) (mo_maybe_o : Nat → Int) (mo_dayFrom_o : Nat → Int) (mo_dayTo_o : Nat → Int) (mo_dayRun_o : Nat → Int) (mo_isLonger_o : Nat → Int) (mo_maybes_o : Int) (mo_days_o : Int) (mo_over2_o : Int) (mo_longer_o : Int)
    (hf : fX11_breaksLaw v1 v2 mo_rules mo_acts mo_kindOf mo_lengthOf mo_laid mo_driven mo_runFrom mo_runTo mo_size mo_runs mo_foundAt mo_foundRule mo_foundMany mo_found mo_counted mo_isParted mo_maybe mo_dayFrom mo_dayTo mo_dayRun mo_isLonger mo_maybes mo_days mo_over2 mo_longer = some (mo_laid_o, mo_driven_o, mo_runFrom_o, mo_runTo_o, mo_size_o, mo_runs_o, mo_foundAt_o, mo_foundRule_o, mo_foundMany_o, mo_found_o, mo_counted_o, mo_isParted_o, mo_maybe_o, mo_dayFrom_o, mo_dayTo_o, mo_dayRun_o, mo_isLonger_o, mo_maybes_o, mo_days_o, mo_over2_o, mo_longer_o)) : Zc l D ca yX11_breaksLaw cX11_breaksLaw 6 none { frames := 5, cells := 0, slots := 0, locals := 119 } [.ref (aMo 0), .int (zI v1), .int (zI v2)] [((aMo 0), .inr (11, [.ref (aMo 1), .int (zI mo_taped), .ref (aMo 3), .ref (aMo 4), .ref (aMo 5), .ref (aMo 6), .ref (aMo 7), .ref (aMo 8), .ref (aMo 9), .ref (aMo 10), .ref (aMo 11), .ref (aMo 12), .ref (aMo 13), .ref (aMo 14), .ref (aMo 15), .ref (aMo 16), .int (zI mo_size), .int (zI mo_runs), .ref (aMo 19), .ref (aMo 20), .ref (aMo 21), .int (zI mo_found), .int (zI mo_counted), .int (zI mo_isParted), .ref (aMo 25), .ref (aMo 26), .ref (aMo 27), .ref (aMo 28), .ref (aMo 29), .int (zI mo_maybes), .int (zI mo_days), .int (zI mo_over2), .int (zI mo_longer), .ref (aMo 34)])), ((aMo 3), .inl (ca 0, 11, .inl (zA mo_rules))), ((aMo 5), .inl (ca 0, 4, .inl (zA mo_acts))), ((aMo 7), .inl (ca 0, 240, .inl (zA mo_kindOf))), ((aMo 8), .inl (ca 0, 240, .inl (zA mo_lengthOf))), ((aMo 13), .inl (ca 0, 20160, .inl (zA mo_laid))), ((aMo 14), .inl (ca 0, 20161, .inl (zA mo_driven))), ((aMo 15), .inl (ca 0, 60, .inl (zA mo_runFrom))), ((aMo 16), .inl (ca 0, 60, .inl (zA mo_runTo))), ((aMo 19), .inl (ca 0, 400, .inl (zA mo_foundAt))), ((aMo 20), .inl (ca 0, 400, .inl (zA mo_foundRule))), ((aMo 21), .inl (ca 0, 400, .inl (zA mo_foundMany))), ((aMo 25), .inl (ca 0, 12, .inl (zA mo_maybe))), ((aMo 26), .inl (ca 0, 62, .inl (zA mo_dayFrom))), ((aMo 27), .inl (ca 0, 62, .inl (zA mo_dayTo))), ((aMo 28), .inl (ca 0, 62, .inl (zA mo_dayRun))), ((aMo 29), .inl (ca 3, 62, .inl (zA mo_isLonger)))] none (fun _ => [((aMo 0), .inr (11, [.ref (aMo 1), .int (zI mo_taped), .ref (aMo 3), .ref (aMo 4), .ref (aMo 5), .ref (aMo 6), .ref (aMo 7), .ref (aMo 8), .ref (aMo 9), .ref (aMo 10), .ref (aMo 11), .ref (aMo 12), .ref (aMo 13), .ref (aMo 14), .ref (aMo 15), .ref (aMo 16), .int (zI mo_size_o), .int (zI mo_runs_o), .ref (aMo 19), .ref (aMo 20), .ref (aMo 21), .int (zI mo_found_o), .int (zI mo_counted_o), .int (zI mo_isParted_o), .ref (aMo 25), .ref (aMo 26), .ref (aMo 27), .ref (aMo 28), .ref (aMo 29), .int (zI mo_maybes_o), .int (zI mo_days_o), .int (zI mo_over2_o), .int (zI mo_longer_o), .ref (aMo 34)])), ((aMo 3), .inl (ca 0, 11, .inl (zA mo_rules))), ((aMo 5), .inl (ca 0, 4, .inl (zA mo_acts))), ((aMo 7), .inl (ca 0, 240, .inl (zA mo_kindOf))), ((aMo 8), .inl (ca 0, 240, .inl (zA mo_lengthOf))), ((aMo 13), .inl (ca 0, 20160, .inl (zA mo_laid_o))), ((aMo 14), .inl (ca 0, 20161, .inl (zA mo_driven_o))), ((aMo 15), .inl (ca 0, 60, .inl (zA mo_runFrom_o))), ((aMo 16), .inl (ca 0, 60, .inl (zA mo_runTo_o))), ((aMo 19), .inl (ca 0, 400, .inl (zA mo_foundAt_o))), ((aMo 20), .inl (ca 0, 400, .inl (zA mo_foundRule_o))), ((aMo 21), .inl (ca 0, 400, .inl (zA mo_foundMany_o))), ((aMo 25), .inl (ca 0, 12, .inl (zA mo_maybe_o))), ((aMo 26), .inl (ca 0, 62, .inl (zA mo_dayFrom_o))), ((aMo 27), .inl (ca 0, 62, .inl (zA mo_dayTo_o))), ((aMo 28), .inl (ca 0, 62, .inl (zA mo_dayRun_o))), ((aMo 29), .inl (ca 3, 62, .inl (zA mo_isLonger_o)))]) := by
  refine ctr_of (lv := [(0, .ref (aMo 0)), (1, .int (zI v1)), (2, .int (zI v2))]) (by decide +kernel) (Nat.le_of_ble_eq_true rfl) rfl (fun Γ hl0 C E hnm => ?_)
  have H111 : ∀ (mo_laid : Nat → Int) (mo_driven : Nat → Int) (mo_runFrom : Nat → Int) (mo_runTo : Nat → Int) (mo_size : Int) (mo_runs : Int) (mo_counted : Int) (mo_isParted : Int) (mo_maybe : Nat → Int) (mo_dayFrom : Nat → Int) (mo_dayTo : Nat → Int) (mo_dayRun : Nat → Int) (mo_isLonger : Nat → Int) (mo_maybes : Int) (mo_days : Int) (mo_over2 : Int) (mo_longer : Int) (n111 : Nat) (v3 : Int) (mo_foundAt : Nat → Int) (mo_foundRule : Nat → Int) (mo_foundMany : Nat → Int) (mo_found : Int), zlp (fX11_breaksLaw_111 mo_rules mo_laid mo_driven mo_runFrom mo_runTo mo_size mo_runs mo_counted mo_isParted mo_maybe mo_dayFrom mo_dayTo mo_dayRun mo_isLonger mo_maybes mo_days mo_over2 mo_longer) n111 (v3, mo_foundAt, mo_foundRule, mo_foundMany, mo_found) = some (mo_laid_o, mo_driven_o, mo_runFrom_o, mo_runTo_o, mo_size_o, mo_runs_o, mo_foundAt_o, mo_foundRule_o, mo_foundMany_o, mo_found_o, mo_counted_o, mo_isParted_o, mo_maybe_o, mo_dayFrom_o, mo_dayTo_o, mo_dayRun_o, mo_isLonger_o, mo_maybes_o, mo_days_o, mo_over2_o, mo_longer_o) → Zd D Γ 0 0 [((aMo 0), .inr (11, [.ref (aMo 1), .int (zI mo_taped), .ref (aMo 3), .ref (aMo 4), .ref (aMo 5), .ref (aMo 6), .ref (aMo 7), .ref (aMo 8), .ref (aMo 9), .ref (aMo 10), .ref (aMo 11), .ref (aMo 12), .ref (aMo 13), .ref (aMo 14), .ref (aMo 15), .ref (aMo 16), .int (zI mo_size), .int (zI mo_runs), .ref (aMo 19), .ref (aMo 20), .ref (aMo 21), .int (zI mo_found), .int (zI mo_counted), .int (zI mo_isParted), .ref (aMo 25), .ref (aMo 26), .ref (aMo 27), .ref (aMo 28), .ref (aMo 29), .int (zI mo_maybes), .int (zI mo_days), .int (zI mo_over2), .int (zI mo_longer), .ref (aMo 34)])), ((aMo 3), .inl (ca 0, 11, .inl (zA mo_rules))), ((aMo 5), .inl (ca 0, 4, .inl (zA mo_acts))), ((aMo 7), .inl (ca 0, 240, .inl (zA mo_kindOf))), ((aMo 8), .inl (ca 0, 240, .inl (zA mo_lengthOf))), ((aMo 13), .inl (ca 0, 20160, .inl (zA mo_laid))), ((aMo 14), .inl (ca 0, 20161, .inl (zA mo_driven))), ((aMo 15), .inl (ca 0, 60, .inl (zA mo_runFrom))), ((aMo 16), .inl (ca 0, 60, .inl (zA mo_runTo))), ((aMo 19), .inl (ca 0, 400, .inl (zA mo_foundAt))), ((aMo 20), .inl (ca 0, 400, .inl (zA mo_foundRule))), ((aMo 21), .inl (ca 0, 400, .inl (zA mo_foundMany))), ((aMo 25), .inl (ca 0, 12, .inl (zA mo_maybe))), ((aMo 26), .inl (ca 0, 62, .inl (zA mo_dayFrom))), ((aMo 27), .inl (ca 0, 62, .inl (zA mo_dayTo))), ((aMo 28), .inl (ca 0, 62, .inl (zA mo_dayRun))), ((aMo 29), .inl (ca 3, 62, .inl (zA mo_isLonger)))] 111 [(0, .ref (aMo 0)), (3, .int (zI v3))] [] := by
    intro mo_laid mo_driven mo_runFrom mo_runTo mo_size mo_runs mo_counted mo_isParted mo_maybe mo_dayFrom mo_dayTo mo_dayRun mo_isLonger mo_maybes mo_days mo_over2 mo_longer
    intro n111
    induction n111 with
    | zero =>
      intro v3 mo_foundAt mo_foundRule mo_foundMany mo_found hf
      exact zno hf
    | succ n111 ih111 =>
      have H207 : ∀ (v3 : Int) (mo_laid : Nat → Int) (mo_driven : Nat → Int) (mo_runFrom : Nat → Int) (mo_runTo : Nat → Int) (mo_size : Int) (mo_runs : Int) (mo_foundAt : Nat → Int) (mo_foundRule : Nat → Int) (mo_foundMany : Nat → Int) (mo_found : Int) (mo_counted : Int) (mo_isParted : Int) (mo_maybe : Nat → Int) (mo_dayFrom : Nat → Int) (mo_dayTo : Nat → Int) (mo_dayRun : Nat → Int) (mo_isLonger : Nat → Int) (mo_maybes : Int) (mo_days : Int) (mo_over2 : Int) (mo_longer : Int), fX11_breaksLaw_207 (zlp (fX11_breaksLaw_111 mo_rules mo_laid mo_driven mo_runFrom mo_runTo mo_size mo_runs mo_counted mo_isParted mo_maybe mo_dayFrom mo_dayTo mo_dayRun mo_isLonger mo_maybes mo_days mo_over2 mo_longer) n111) v3 mo_foundAt mo_foundRule mo_foundMany mo_found = some (mo_laid_o, mo_driven_o, mo_runFrom_o, mo_runTo_o, mo_size_o, mo_runs_o, mo_foundAt_o, mo_foundRule_o, mo_foundMany_o, mo_found_o, mo_counted_o, mo_isParted_o, mo_maybe_o, mo_dayFrom_o, mo_dayTo_o, mo_dayRun_o, mo_isLonger_o, mo_maybes_o, mo_days_o, mo_over2_o, mo_longer_o) → Zd D Γ 0 0 [((aMo 0), .inr (11, [.ref (aMo 1), .int (zI mo_taped), .ref (aMo 3), .ref (aMo 4), .ref (aMo 5), .ref (aMo 6), .ref (aMo 7), .ref (aMo 8), .ref (aMo 9), .ref (aMo 10), .ref (aMo 11), .ref (aMo 12), .ref (aMo 13), .ref (aMo 14), .ref (aMo 15), .ref (aMo 16), .int (zI mo_size), .int (zI mo_runs), .ref (aMo 19), .ref (aMo 20), .ref (aMo 21), .int (zI mo_found), .int (zI mo_counted), .int (zI mo_isParted), .ref (aMo 25), .ref (aMo 26), .ref (aMo 27), .ref (aMo 28), .ref (aMo 29), .int (zI mo_maybes), .int (zI mo_days), .int (zI mo_over2), .int (zI mo_longer), .ref (aMo 34)])), ((aMo 3), .inl (ca 0, 11, .inl (zA mo_rules))), ((aMo 5), .inl (ca 0, 4, .inl (zA mo_acts))), ((aMo 7), .inl (ca 0, 240, .inl (zA mo_kindOf))), ((aMo 8), .inl (ca 0, 240, .inl (zA mo_lengthOf))), ((aMo 13), .inl (ca 0, 20160, .inl (zA mo_laid))), ((aMo 14), .inl (ca 0, 20161, .inl (zA mo_driven))), ((aMo 15), .inl (ca 0, 60, .inl (zA mo_runFrom))), ((aMo 16), .inl (ca 0, 60, .inl (zA mo_runTo))), ((aMo 19), .inl (ca 0, 400, .inl (zA mo_foundAt))), ((aMo 20), .inl (ca 0, 400, .inl (zA mo_foundRule))), ((aMo 21), .inl (ca 0, 400, .inl (zA mo_foundMany))), ((aMo 25), .inl (ca 0, 12, .inl (zA mo_maybe))), ((aMo 26), .inl (ca 0, 62, .inl (zA mo_dayFrom))), ((aMo 27), .inl (ca 0, 62, .inl (zA mo_dayTo))), ((aMo 28), .inl (ca 0, 62, .inl (zA mo_dayRun))), ((aMo 29), .inl (ca 3, 62, .inl (zA mo_isLonger)))] 207 [(0, .ref (aMo 0)), (3, .int (zI v3))] [] := by
        intro v3 mo_laid mo_driven mo_runFrom mo_runTo mo_size mo_runs mo_foundAt mo_foundRule mo_foundMany mo_found mo_counted mo_isParted mo_maybe mo_dayFrom mo_dayTo mo_dayRun mo_isLonger mo_maybes mo_days mo_over2 mo_longer hf
        unfold fX11_breaksLaw_207 at hf
        refine g_iinc (pc := 207) C 1 (lv' := [(3, .int (zI (v3 + 1))), (0, .ref (aMo 0))]) dX11_breaksLaw_207 rfl (Nat.le_of_ble_eq_true rfl) rfl ?_
        refine g_goto (pc := 210) C (tgt := 111) dX11_breaksLaw_210 (by decide) ?_
        refine g_sub [0, 1, 2, 3, 4, 5, 6, 7, 8, 9, 10, 11, 12, 13, 14, 15, 16] [1, 0] (by decide) rfl rfl rfl ?_
        exact ih111 _ _ _ _ _ hf
      have H156 : ∀ (v3 : Int) (s0 : Int) (mo_laid : Nat → Int) (mo_driven : Nat → Int) (mo_runFrom : Nat → Int) (mo_runTo : Nat → Int) (mo_size : Int) (mo_runs : Int) (mo_foundAt : Nat → Int) (mo_foundRule : Nat → Int) (mo_foundMany : Nat → Int) (mo_found : Int) (mo_counted : Int) (mo_isParted : Int) (mo_maybe : Nat → Int) (mo_dayFrom : Nat → Int) (mo_dayTo : Nat → Int) (mo_dayRun : Nat → Int) (mo_isLonger : Nat → Int) (mo_maybes : Int) (mo_days : Int) (mo_over2 : Int) (mo_longer : Int), fX11_breaksLaw_156 (zlp (fX11_breaksLaw_111 mo_rules mo_laid mo_driven mo_runFrom mo_runTo mo_size mo_runs mo_counted mo_isParted mo_maybe mo_dayFrom mo_dayTo mo_dayRun mo_isLonger mo_maybes mo_days mo_over2 mo_longer) n111) v3 s0 mo_rules mo_driven mo_foundAt mo_foundRule mo_foundMany mo_found = some (mo_laid_o, mo_driven_o, mo_runFrom_o, mo_runTo_o, mo_size_o, mo_runs_o, mo_foundAt_o, mo_foundRule_o, mo_foundMany_o, mo_found_o, mo_counted_o, mo_isParted_o, mo_maybe_o, mo_dayFrom_o, mo_dayTo_o, mo_dayRun_o, mo_isLonger_o, mo_maybes_o, mo_days_o, mo_over2_o, mo_longer_o) → Zd D Γ 0 0 [((aMo 0), .inr (11, [.ref (aMo 1), .int (zI mo_taped), .ref (aMo 3), .ref (aMo 4), .ref (aMo 5), .ref (aMo 6), .ref (aMo 7), .ref (aMo 8), .ref (aMo 9), .ref (aMo 10), .ref (aMo 11), .ref (aMo 12), .ref (aMo 13), .ref (aMo 14), .ref (aMo 15), .ref (aMo 16), .int (zI mo_size), .int (zI mo_runs), .ref (aMo 19), .ref (aMo 20), .ref (aMo 21), .int (zI mo_found), .int (zI mo_counted), .int (zI mo_isParted), .ref (aMo 25), .ref (aMo 26), .ref (aMo 27), .ref (aMo 28), .ref (aMo 29), .int (zI mo_maybes), .int (zI mo_days), .int (zI mo_over2), .int (zI mo_longer), .ref (aMo 34)])), ((aMo 3), .inl (ca 0, 11, .inl (zA mo_rules))), ((aMo 5), .inl (ca 0, 4, .inl (zA mo_acts))), ((aMo 7), .inl (ca 0, 240, .inl (zA mo_kindOf))), ((aMo 8), .inl (ca 0, 240, .inl (zA mo_lengthOf))), ((aMo 13), .inl (ca 0, 20160, .inl (zA mo_laid))), ((aMo 14), .inl (ca 0, 20161, .inl (zA mo_driven))), ((aMo 15), .inl (ca 0, 60, .inl (zA mo_runFrom))), ((aMo 16), .inl (ca 0, 60, .inl (zA mo_runTo))), ((aMo 19), .inl (ca 0, 400, .inl (zA mo_foundAt))), ((aMo 20), .inl (ca 0, 400, .inl (zA mo_foundRule))), ((aMo 21), .inl (ca 0, 400, .inl (zA mo_foundMany))), ((aMo 25), .inl (ca 0, 12, .inl (zA mo_maybe))), ((aMo 26), .inl (ca 0, 62, .inl (zA mo_dayFrom))), ((aMo 27), .inl (ca 0, 62, .inl (zA mo_dayTo))), ((aMo 28), .inl (ca 0, 62, .inl (zA mo_dayRun))), ((aMo 29), .inl (ca 3, 62, .inl (zA mo_isLonger)))] 156 [(0, .ref (aMo 0)), (3, .int (zI v3))] [.int (zI s0)] := by
        intro v3 s0 mo_laid mo_driven mo_runFrom mo_runTo mo_size mo_runs mo_foundAt mo_foundRule mo_foundMany mo_found mo_counted mo_isParted mo_maybe mo_dayFrom mo_dayTo mo_dayRun mo_isLonger mo_maybes mo_days mo_over2 mo_longer hf
        unfold fX11_breaksLaw_156 at hf
        refine g_istore (pc := 156) C (lv' := [(4, .int (zI s0)), (0, .ref (aMo 0)), (3, .int (zI v3))]) dX11_breaksLaw_156 (Nat.le_of_ble_eq_true rfl) rfl ?_
        refine g_aload_n (pc := 158) C 1 dX11_breaksLaw_158 rfl rfl ?_
        refine g_iload_n (pc := 159) C 2 dX11_breaksLaw_159 rfl rfl ?_
        refine g_sipush (pc := 160) C dX11_breaksLaw_160 (by decide) ?_
        refine g_imul (pc := 163) C dX11_breaksLaw_163 ?_
        refine g_iload (pc := 164) C 0 dX11_breaksLaw_164 rfl ?_
        obtain ⟨r_166, hc_166, hf⟩ := Option.bind_eq_some_iff.mp hf
        refine g_callV (pc := 166) C hl0 (wr := [((aMo 3), .inl (ca 0, 11, .inl (zA mo_rules))), ((aMo 5), .inl (ca 0, 4, .inl (zA mo_acts))), ((aMo 7), .inl (ca 0, 240, .inl (zA mo_kindOf))), ((aMo 8), .inl (ca 0, 240, .inl (zA mo_lengthOf))), ((aMo 13), .inl (ca 0, 20160, .inl (zA mo_laid))), ((aMo 15), .inl (ca 0, 60, .inl (zA mo_runFrom))), ((aMo 16), .inl (ca 0, 60, .inl (zA mo_runTo))), ((aMo 19), .inl (ca 0, 400, .inl (zA mo_foundAt))), ((aMo 20), .inl (ca 0, 400, .inl (zA mo_foundRule))), ((aMo 21), .inl (ca 0, 400, .inl (zA mo_foundMany))), ((aMo 25), .inl (ca 0, 12, .inl (zA mo_maybe))), ((aMo 26), .inl (ca 0, 62, .inl (zA mo_dayFrom))), ((aMo 27), .inl (ca 0, 62, .inl (zA mo_dayTo))), ((aMo 28), .inl (ca 0, 62, .inl (zA mo_dayRun))), ((aMo 29), .inl (ca 3, 62, .inl (zA mo_isLonger)))]) (k' := 0) (n' := 0) (ws' := fun _ => [((aMo 3), .inl (ca 0, 11, .inl (zA mo_rules))), ((aMo 5), .inl (ca 0, 4, .inl (zA mo_acts))), ((aMo 7), .inl (ca 0, 240, .inl (zA mo_kindOf))), ((aMo 8), .inl (ca 0, 240, .inl (zA mo_lengthOf))), ((aMo 13), .inl (ca 0, 20160, .inl (zA mo_laid))), ((aMo 15), .inl (ca 0, 60, .inl (zA mo_runFrom))), ((aMo 16), .inl (ca 0, 60, .inl (zA mo_runTo))), ((aMo 19), .inl (ca 0, 400, .inl (zA mo_foundAt))), ((aMo 20), .inl (ca 0, 400, .inl (zA mo_foundRule))), ((aMo 21), .inl (ca 0, 400, .inl (zA mo_foundMany))), ((aMo 25), .inl (ca 0, 12, .inl (zA mo_maybe))), ((aMo 26), .inl (ca 0, 62, .inl (zA mo_dayFrom))), ((aMo 27), .inl (ca 0, 62, .inl (zA mo_dayTo))), ((aMo 28), .inl (ca 0, 62, .inl (zA mo_dayRun))), ((aMo 29), .inl (ca 3, 62, .inl (zA mo_isLonger))), ((aMo 0), .inr (11, [.ref (aMo 1), .int (zI mo_taped), .ref (aMo 3), .ref (aMo 4), .ref (aMo 5), .ref (aMo 6), .ref (aMo 7), .ref (aMo 8), .ref (aMo 9), .ref (aMo 10), .ref (aMo 11), .ref (aMo 12), .ref (aMo 13), .ref (aMo 14), .ref (aMo 15), .ref (aMo 16), .int (zI mo_size), .int (zI mo_runs), .ref (aMo 19), .ref (aMo 20), .ref (aMo 21), .int (zI mo_found), .int (zI mo_counted), .int (zI mo_isParted), .ref (aMo 25), .ref (aMo 26), .ref (aMo 27), .ref (aMo 28), .ref (aMo 29), .int (zI mo_maybes), .int (zI mo_days), .int (zI mo_over2), .int (zI mo_longer), .ref (aMo 34)])), ((aMo 14), .inl (ca 0, 20161, .inl (zA mo_driven)))]) (st' := [.int (zI r_166)]) (kX11_driveIn l D ca aMo mo_taped mo_driven mo_size mo_runs mo_found mo_counted mo_isParted mo_maybes mo_days mo_over2 mo_longer (v3 * 10080) s0 r_166 hc_166) wml_RX11_160 wim_X11_driveIn wse_X11_driveIn win_RX11 wco_X11_driveIn (nA := 2) rfl (by decide +kernel)  ⟨(Nat.le_of_ble_eq_true rfl), (Nat.le_of_ble_eq_true rfl)⟩ (Nat.le_refl _) (Nat.le_refl _) rfl (by decide) dX11_breaksLaw_166 0 11 rfl rfl rfl [0, 6] [1, 2, 3, 4, 5, 7, 8, 9, 10, 11, 12, 13, 14, 15, 16] rfl rfl rfl (by decide) (by decide) (by decide) rfl rfl (fun _ => rfl) rfl (fun _ => ?_)
        refine g_aload_n (pc := 169) C 1 dX11_breaksLaw_169 rfl rfl ?_
        refine g_get (pc := 170) C zf_X11_13 15 rfl rfl dX11_breaksLaw_170 ?_
        refine g_bipush (pc := 173) C dX11_breaksLaw_173 (by decide) ?_
        refine g_ialdK (pc := 175) C 10 0 rfl rfl (Nat.le_of_ble_eq_true rfl) (Nat.le_of_ble_eq_true rfl) dX11_breaksLaw_175 ?_
        refine g_isub (pc := 176) C dX11_breaksLaw_176 ?_
        refine g_istore (pc := 177) C (lv' := [(5, .int (zI (r_166 - (mo_rules 10)))), (4, .int (zI s0)), (0, .ref (aMo 0)), (3, .int (zI v3))]) dX11_breaksLaw_177 (Nat.le_of_ble_eq_true rfl) rfl ?_
        refine g_iload (pc := 179) C 0 dX11_breaksLaw_179 rfl ?_
        refine g_if_le (pc := 181) C (tgt := 207) dX11_breaksLaw_181 (by decide) hf (fun hf => ?_) (fun hf => ?_)
        · refine g_sub [15, 0, 1, 2, 3, 4, 16, 5, 6, 7, 8, 9, 10, 11, 12, 13, 14] [2, 3] (by decide) rfl rfl rfl ?_
          exact H207 _ _ _ _ _ _ _ _ _ _ _ _ _ _ _ _ _ _ _ _ _ _ hf
        · refine g_aload_n (pc := 184) C 2 dX11_breaksLaw_184 rfl rfl ?_
          refine g_aload_n (pc := 185) C 2 dX11_breaksLaw_185 rfl rfl ?_
          refine g_iload_n (pc := 186) C 3 dX11_breaksLaw_186 rfl rfl ?_
          refine g_sipush (pc := 187) C dX11_breaksLaw_187 (by decide) ?_
          refine g_imul (pc := 190) C dX11_breaksLaw_190 ?_
          refine g_aload_n (pc := 191) C 2 dX11_breaksLaw_191 rfl rfl ?_
          refine g_get (pc := 192) C zf_X11_13 15 rfl rfl dX11_breaksLaw_192 ?_
          refine g_bipush (pc := 195) C dX11_breaksLaw_195 (by decide) ?_
          refine g_ialdK (pc := 197) C 10 0 rfl rfl (Nat.le_of_ble_eq_true rfl) (Nat.le_of_ble_eq_true rfl) dX11_breaksLaw_197 ?_
          obtain ⟨r_198, hc_198, hf⟩ := Option.bind_eq_some_iff.mp hf
          refine g_callV (pc := 198) C hl0 (wr := [((aMo 3), .inl (ca 0, 11, .inl (zA mo_rules))), ((aMo 5), .inl (ca 0, 4, .inl (zA mo_acts))), ((aMo 7), .inl (ca 0, 240, .inl (zA mo_kindOf))), ((aMo 8), .inl (ca 0, 240, .inl (zA mo_lengthOf))), ((aMo 13), .inl (ca 0, 20160, .inl (zA mo_laid))), ((aMo 15), .inl (ca 0, 60, .inl (zA mo_runFrom))), ((aMo 16), .inl (ca 0, 60, .inl (zA mo_runTo))), ((aMo 19), .inl (ca 0, 400, .inl (zA mo_foundAt))), ((aMo 20), .inl (ca 0, 400, .inl (zA mo_foundRule))), ((aMo 21), .inl (ca 0, 400, .inl (zA mo_foundMany))), ((aMo 25), .inl (ca 0, 12, .inl (zA mo_maybe))), ((aMo 26), .inl (ca 0, 62, .inl (zA mo_dayFrom))), ((aMo 27), .inl (ca 0, 62, .inl (zA mo_dayTo))), ((aMo 28), .inl (ca 0, 62, .inl (zA mo_dayRun))), ((aMo 29), .inl (ca 3, 62, .inl (zA mo_isLonger)))]) (k' := 0) (n' := 0) (ws' := fun _ => [((aMo 3), .inl (ca 0, 11, .inl (zA mo_rules))), ((aMo 5), .inl (ca 0, 4, .inl (zA mo_acts))), ((aMo 7), .inl (ca 0, 240, .inl (zA mo_kindOf))), ((aMo 8), .inl (ca 0, 240, .inl (zA mo_lengthOf))), ((aMo 13), .inl (ca 0, 20160, .inl (zA mo_laid))), ((aMo 15), .inl (ca 0, 60, .inl (zA mo_runFrom))), ((aMo 16), .inl (ca 0, 60, .inl (zA mo_runTo))), ((aMo 19), .inl (ca 0, 400, .inl (zA mo_foundAt))), ((aMo 20), .inl (ca 0, 400, .inl (zA mo_foundRule))), ((aMo 21), .inl (ca 0, 400, .inl (zA mo_foundMany))), ((aMo 25), .inl (ca 0, 12, .inl (zA mo_maybe))), ((aMo 26), .inl (ca 0, 62, .inl (zA mo_dayFrom))), ((aMo 27), .inl (ca 0, 62, .inl (zA mo_dayTo))), ((aMo 28), .inl (ca 0, 62, .inl (zA mo_dayRun))), ((aMo 29), .inl (ca 3, 62, .inl (zA mo_isLonger))), ((aMo 0), .inr (11, [.ref (aMo 1), .int (zI mo_taped), .ref (aMo 3), .ref (aMo 4), .ref (aMo 5), .ref (aMo 6), .ref (aMo 7), .ref (aMo 8), .ref (aMo 9), .ref (aMo 10), .ref (aMo 11), .ref (aMo 12), .ref (aMo 13), .ref (aMo 14), .ref (aMo 15), .ref (aMo 16), .int (zI mo_size), .int (zI mo_runs), .ref (aMo 19), .ref (aMo 20), .ref (aMo 21), .int (zI mo_found), .int (zI mo_counted), .int (zI mo_isParted), .ref (aMo 25), .ref (aMo 26), .ref (aMo 27), .ref (aMo 28), .ref (aMo 29), .int (zI mo_maybes), .int (zI mo_days), .int (zI mo_over2), .int (zI mo_longer), .ref (aMo 34)])), ((aMo 14), .inl (ca 0, 20161, .inl (zA mo_driven)))]) (st' := [.int (zI r_198), .ref (aMo 0)]) (kX11_goesAbove l D ca aMo mo_taped mo_driven mo_size mo_runs mo_found mo_counted mo_isParted mo_maybes mo_days mo_over2 mo_longer (v3 * 10080) (mo_rules 10) r_198 hc_198) wml_RX11_208 wim_X11_goesAbove wse_X11_goesAbove win_RX11 wco_X11_goesAbove (nA := 2) rfl (by decide +kernel)  ⟨(Nat.le_of_ble_eq_true rfl), (Nat.le_of_ble_eq_true rfl)⟩ (Nat.le_refl _) (Nat.le_refl _) rfl (by decide) dX11_breaksLaw_198 15 11 rfl rfl rfl [15, 16] [0, 1, 2, 3, 4, 5, 6, 7, 8, 9, 10, 11, 12, 13, 14] rfl rfl rfl (by decide) (by decide) (by decide) rfl rfl (fun _ => rfl) rfl (fun _ => ?_)
          refine g_iconst (pc := 201) C dX11_breaksLaw_201 ?_
          refine g_iload (pc := 202) C 0 dX11_breaksLaw_202 rfl ?_
          obtain ⟨⟨mo_foundAt_204, mo_foundRule_204, mo_foundMany_204, mo_found_204⟩, hc_204, hf⟩ := Option.bind_eq_some_iff.mp hf
          dsimp only at hf
          refine g_callV (pc := 204) C hl0 (wr := [((aMo 3), .inl (ca 0, 11, .inl (zA mo_rules))), ((aMo 5), .inl (ca 0, 4, .inl (zA mo_acts))), ((aMo 7), .inl (ca 0, 240, .inl (zA mo_kindOf))), ((aMo 8), .inl (ca 0, 240, .inl (zA mo_lengthOf))), ((aMo 13), .inl (ca 0, 20160, .inl (zA mo_laid))), ((aMo 15), .inl (ca 0, 60, .inl (zA mo_runFrom))), ((aMo 16), .inl (ca 0, 60, .inl (zA mo_runTo))), ((aMo 25), .inl (ca 0, 12, .inl (zA mo_maybe))), ((aMo 26), .inl (ca 0, 62, .inl (zA mo_dayFrom))), ((aMo 27), .inl (ca 0, 62, .inl (zA mo_dayTo))), ((aMo 28), .inl (ca 0, 62, .inl (zA mo_dayRun))), ((aMo 29), .inl (ca 3, 62, .inl (zA mo_isLonger))), ((aMo 14), .inl (ca 0, 20161, .inl (zA mo_driven)))]) (k' := 0) (n' := 0) (ws' := fun _ => [((aMo 3), .inl (ca 0, 11, .inl (zA mo_rules))), ((aMo 5), .inl (ca 0, 4, .inl (zA mo_acts))), ((aMo 7), .inl (ca 0, 240, .inl (zA mo_kindOf))), ((aMo 8), .inl (ca 0, 240, .inl (zA mo_lengthOf))), ((aMo 13), .inl (ca 0, 20160, .inl (zA mo_laid))), ((aMo 15), .inl (ca 0, 60, .inl (zA mo_runFrom))), ((aMo 16), .inl (ca 0, 60, .inl (zA mo_runTo))), ((aMo 25), .inl (ca 0, 12, .inl (zA mo_maybe))), ((aMo 26), .inl (ca 0, 62, .inl (zA mo_dayFrom))), ((aMo 27), .inl (ca 0, 62, .inl (zA mo_dayTo))), ((aMo 28), .inl (ca 0, 62, .inl (zA mo_dayRun))), ((aMo 29), .inl (ca 3, 62, .inl (zA mo_isLonger))), ((aMo 14), .inl (ca 0, 20161, .inl (zA mo_driven))), ((aMo 0), .inr (11, [.ref (aMo 1), .int (zI mo_taped), .ref (aMo 3), .ref (aMo 4), .ref (aMo 5), .ref (aMo 6), .ref (aMo 7), .ref (aMo 8), .ref (aMo 9), .ref (aMo 10), .ref (aMo 11), .ref (aMo 12), .ref (aMo 13), .ref (aMo 14), .ref (aMo 15), .ref (aMo 16), .int (zI mo_size), .int (zI mo_runs), .ref (aMo 19), .ref (aMo 20), .ref (aMo 21), .int (zI mo_found_204), .int (zI mo_counted), .int (zI mo_isParted), .ref (aMo 25), .ref (aMo 26), .ref (aMo 27), .ref (aMo 28), .ref (aMo 29), .int (zI mo_maybes), .int (zI mo_days), .int (zI mo_over2), .int (zI mo_longer), .ref (aMo 34)])), ((aMo 19), .inl (ca 0, 400, .inl (zA mo_foundAt_204))), ((aMo 20), .inl (ca 0, 400, .inl (zA mo_foundRule_204))), ((aMo 21), .inl (ca 0, 400, .inl (zA mo_foundMany_204)))]) (st' := []) (kX11_tells l D ca aMo mo_taped mo_size mo_runs mo_foundAt mo_foundRule mo_foundMany mo_found mo_counted mo_isParted mo_maybes mo_days mo_over2 mo_longer r_198 4 (r_166 - (mo_rules 10)) mo_foundAt_204 mo_foundRule_204 mo_foundMany_204 mo_found_204 hc_204) wml_RX11_147 wim_X11_tells wse_X11_tells win_RX11 wco_X11_tells (nA := 3) rfl (by decide +kernel)  ⟨(Nat.le_of_ble_eq_true rfl), (Nat.le_of_ble_eq_true rfl)⟩ (Nat.le_refl _) (Nat.le_refl _) rfl (by decide) dX11_breaksLaw_204 15 11 rfl rfl rfl [15, 7, 8, 9] [0, 1, 2, 3, 4, 5, 6, 10, 11, 12, 13, 14, 16] rfl rfl rfl (by decide) (by decide) (by decide) rfl rfl (fun _ => rfl) rfl (fun _ => ?_)
          refine g_sub [13, 0, 1, 2, 3, 4, 12, 5, 6, 14, 15, 16, 7, 8, 9, 10, 11] [2, 3] (by decide) rfl rfl rfl ?_
          exact H207 _ _ _ _ _ _ _ _ _ _ _ _ _ _ _ _ _ _ _ _ _ _ hf
      intro v3 mo_foundAt mo_foundRule mo_foundMany mo_found hf
      rw [zlp_s] at hf
      unfold fX11_breaksLaw_111 at hf
      dsimp only at hf
      refine g_iload_n (pc := 111) C 1 dX11_breaksLaw_111 rfl rfl ?_
      refine g_iconst (pc := 112) C dX11_breaksLaw_112 ?_
      refine g_icmp_ger (pc := 113) C (tgt := 213) dX11_breaksLaw_113 (by decide) (by decide) hf (fun hf => ?_) (fun hf => ?_)
      · cases hf
        exact g_vret (pc := 213) C E (fun _ => 0) [0, 1, 2, 3, 4, 5, 6, 7, 8, 9, 10, 11, 12, 13, 14, 15, 16] (by decide) rfl rfl (Nat.le_refl _) (Nat.le_refl _) dX11_breaksLaw_213
      · refine g_iload_n (pc := 116) C 1 dX11_breaksLaw_116 rfl rfl ?_
        refine g_sipush (pc := 117) C dX11_breaksLaw_117 (by decide) ?_
        refine g_imul (pc := 120) C dX11_breaksLaw_120 ?_
        refine g_aload_n (pc := 121) C 0 dX11_breaksLaw_121 rfl rfl ?_
        refine g_get (pc := 122) C zf_X11_121 0 rfl rfl dX11_breaksLaw_122 ?_
        refine g_icmp_ge (pc := 125) C (tgt := 213) dX11_breaksLaw_125 (by decide) hf (fun hf => ?_) (fun hf => ?_)
        · cases hf
          exact g_vret (pc := 213) C E (fun _ => 0) [0, 1, 2, 3, 4, 5, 6, 7, 8, 9, 10, 11, 12, 13, 14, 15, 16] (by decide) rfl rfl (Nat.le_refl _) (Nat.le_refl _) dX11_breaksLaw_213
        · refine g_iload_n (pc := 128) C 1 dX11_breaksLaw_128 rfl rfl ?_
          refine g_iconst (pc := 129) C dX11_breaksLaw_129 ?_
          refine g_iadd (pc := 130) C dX11_breaksLaw_130 ?_
          refine g_sipush (pc := 131) C dX11_breaksLaw_131 (by decide) ?_
          refine g_imul (pc := 134) C dX11_breaksLaw_134 ?_
          refine g_aload_n (pc := 135) C 0 dX11_breaksLaw_135 rfl rfl ?_
          refine g_get (pc := 136) C zf_X11_121 0 rfl rfl dX11_breaksLaw_136 ?_
          refine g_icmp_ge (pc := 139) C (tgt := 152) dX11_breaksLaw_139 (by decide) hf (fun hf => ?_) (fun hf => ?_)
          · refine g_aload_n (pc := 152) C 0 dX11_breaksLaw_152 rfl rfl ?_
            refine g_get (pc := 153) C zf_X11_121 0 rfl rfl dX11_breaksLaw_153 ?_
            exact H156 _ _ _ _ _ _ _ _ _ _ _ _ _ _ _ _ _ _ _ _ _ _ _ hf
          · refine g_iload_n (pc := 142) C 1 dX11_breaksLaw_142 rfl rfl ?_
            refine g_iconst (pc := 143) C dX11_breaksLaw_143 ?_
            refine g_iadd (pc := 144) C dX11_breaksLaw_144 ?_
            refine g_sipush (pc := 145) C dX11_breaksLaw_145 (by decide) ?_
            refine g_imul (pc := 148) C dX11_breaksLaw_148 ?_
            refine g_goto (pc := 149) C (tgt := 156) dX11_breaksLaw_149 (by decide) ?_
            exact H156 _ _ _ _ _ _ _ _ _ _ _ _ _ _ _ _ _ _ _ _ _ _ _ hf
  have H21 : ∀ (mo_laid : Nat → Int) (mo_driven : Nat → Int) (mo_runFrom : Nat → Int) (mo_runTo : Nat → Int) (mo_size : Int) (mo_runs : Int) (mo_counted : Int) (mo_isParted : Int) (mo_maybe : Nat → Int) (mo_dayFrom : Nat → Int) (mo_dayTo : Nat → Int) (mo_dayRun : Nat → Int) (mo_isLonger : Nat → Int) (mo_maybes : Int) (mo_days : Int) (mo_over2 : Int) (mo_longer : Int) (n21 : Nat) (v3 : Int) (mo_foundAt : Nat → Int) (mo_foundRule : Nat → Int) (mo_foundMany : Nat → Int) (mo_found : Int), zlp (fX11_breaksLaw_21 mo_rules mo_laid mo_driven mo_runFrom mo_runTo mo_size mo_runs mo_counted mo_isParted mo_maybe mo_dayFrom mo_dayTo mo_dayRun mo_isLonger mo_maybes mo_days mo_over2 mo_longer) n21 (v3, mo_foundAt, mo_foundRule, mo_foundMany, mo_found) = some (mo_laid_o, mo_driven_o, mo_runFrom_o, mo_runTo_o, mo_size_o, mo_runs_o, mo_foundAt_o, mo_foundRule_o, mo_foundMany_o, mo_found_o, mo_counted_o, mo_isParted_o, mo_maybe_o, mo_dayFrom_o, mo_dayTo_o, mo_dayRun_o, mo_isLonger_o, mo_maybes_o, mo_days_o, mo_over2_o, mo_longer_o) → Zd D Γ 0 0 [((aMo 0), .inr (11, [.ref (aMo 1), .int (zI mo_taped), .ref (aMo 3), .ref (aMo 4), .ref (aMo 5), .ref (aMo 6), .ref (aMo 7), .ref (aMo 8), .ref (aMo 9), .ref (aMo 10), .ref (aMo 11), .ref (aMo 12), .ref (aMo 13), .ref (aMo 14), .ref (aMo 15), .ref (aMo 16), .int (zI mo_size), .int (zI mo_runs), .ref (aMo 19), .ref (aMo 20), .ref (aMo 21), .int (zI mo_found), .int (zI mo_counted), .int (zI mo_isParted), .ref (aMo 25), .ref (aMo 26), .ref (aMo 27), .ref (aMo 28), .ref (aMo 29), .int (zI mo_maybes), .int (zI mo_days), .int (zI mo_over2), .int (zI mo_longer), .ref (aMo 34)])), ((aMo 3), .inl (ca 0, 11, .inl (zA mo_rules))), ((aMo 5), .inl (ca 0, 4, .inl (zA mo_acts))), ((aMo 7), .inl (ca 0, 240, .inl (zA mo_kindOf))), ((aMo 8), .inl (ca 0, 240, .inl (zA mo_lengthOf))), ((aMo 13), .inl (ca 0, 20160, .inl (zA mo_laid))), ((aMo 14), .inl (ca 0, 20161, .inl (zA mo_driven))), ((aMo 15), .inl (ca 0, 60, .inl (zA mo_runFrom))), ((aMo 16), .inl (ca 0, 60, .inl (zA mo_runTo))), ((aMo 19), .inl (ca 0, 400, .inl (zA mo_foundAt))), ((aMo 20), .inl (ca 0, 400, .inl (zA mo_foundRule))), ((aMo 21), .inl (ca 0, 400, .inl (zA mo_foundMany))), ((aMo 25), .inl (ca 0, 12, .inl (zA mo_maybe))), ((aMo 26), .inl (ca 0, 62, .inl (zA mo_dayFrom))), ((aMo 27), .inl (ca 0, 62, .inl (zA mo_dayTo))), ((aMo 28), .inl (ca 0, 62, .inl (zA mo_dayRun))), ((aMo 29), .inl (ca 3, 62, .inl (zA mo_isLonger)))] 21 [(0, .ref (aMo 0)), (3, .int (zI v3))] [] := by
    intro mo_laid mo_driven mo_runFrom mo_runTo mo_size mo_runs mo_counted mo_isParted mo_maybe mo_dayFrom mo_dayTo mo_dayRun mo_isLonger mo_maybes mo_days mo_over2 mo_longer
    intro n21
    induction n21 with
    | zero =>
      intro v3 mo_foundAt mo_foundRule mo_foundMany mo_found hf
      exact zno hf
    | succ n21 ih21 =>
      have H83 : ∀ (v3 : Int) (mo_laid : Nat → Int) (mo_driven : Nat → Int) (mo_runFrom : Nat → Int) (mo_runTo : Nat → Int) (mo_size : Int) (mo_runs : Int) (mo_foundAt : Nat → Int) (mo_foundRule : Nat → Int) (mo_foundMany : Nat → Int) (mo_found : Int) (mo_counted : Int) (mo_isParted : Int) (mo_maybe : Nat → Int) (mo_dayFrom : Nat → Int) (mo_dayTo : Nat → Int) (mo_dayRun : Nat → Int) (mo_isLonger : Nat → Int) (mo_maybes : Int) (mo_days : Int) (mo_over2 : Int) (mo_longer : Int), fX11_breaksLaw_83 (zlp (fX11_breaksLaw_21 mo_rules mo_laid mo_driven mo_runFrom mo_runTo mo_size mo_runs mo_counted mo_isParted mo_maybe mo_dayFrom mo_dayTo mo_dayRun mo_isLonger mo_maybes mo_days mo_over2 mo_longer) n21) v3 mo_rules mo_runFrom mo_runTo mo_size mo_foundAt mo_foundRule mo_foundMany mo_found mo_dayFrom mo_dayRun = some (mo_laid_o, mo_driven_o, mo_runFrom_o, mo_runTo_o, mo_size_o, mo_runs_o, mo_foundAt_o, mo_foundRule_o, mo_foundMany_o, mo_found_o, mo_counted_o, mo_isParted_o, mo_maybe_o, mo_dayFrom_o, mo_dayTo_o, mo_dayRun_o, mo_isLonger_o, mo_maybes_o, mo_days_o, mo_over2_o, mo_longer_o) → Zd D Γ 0 0 [((aMo 0), .inr (11, [.ref (aMo 1), .int (zI mo_taped), .ref (aMo 3), .ref (aMo 4), .ref (aMo 5), .ref (aMo 6), .ref (aMo 7), .ref (aMo 8), .ref (aMo 9), .ref (aMo 10), .ref (aMo 11), .ref (aMo 12), .ref (aMo 13), .ref (aMo 14), .ref (aMo 15), .ref (aMo 16), .int (zI mo_size), .int (zI mo_runs), .ref (aMo 19), .ref (aMo 20), .ref (aMo 21), .int (zI mo_found), .int (zI mo_counted), .int (zI mo_isParted), .ref (aMo 25), .ref (aMo 26), .ref (aMo 27), .ref (aMo 28), .ref (aMo 29), .int (zI mo_maybes), .int (zI mo_days), .int (zI mo_over2), .int (zI mo_longer), .ref (aMo 34)])), ((aMo 3), .inl (ca 0, 11, .inl (zA mo_rules))), ((aMo 5), .inl (ca 0, 4, .inl (zA mo_acts))), ((aMo 7), .inl (ca 0, 240, .inl (zA mo_kindOf))), ((aMo 8), .inl (ca 0, 240, .inl (zA mo_lengthOf))), ((aMo 13), .inl (ca 0, 20160, .inl (zA mo_laid))), ((aMo 14), .inl (ca 0, 20161, .inl (zA mo_driven))), ((aMo 15), .inl (ca 0, 60, .inl (zA mo_runFrom))), ((aMo 16), .inl (ca 0, 60, .inl (zA mo_runTo))), ((aMo 19), .inl (ca 0, 400, .inl (zA mo_foundAt))), ((aMo 20), .inl (ca 0, 400, .inl (zA mo_foundRule))), ((aMo 21), .inl (ca 0, 400, .inl (zA mo_foundMany))), ((aMo 25), .inl (ca 0, 12, .inl (zA mo_maybe))), ((aMo 26), .inl (ca 0, 62, .inl (zA mo_dayFrom))), ((aMo 27), .inl (ca 0, 62, .inl (zA mo_dayTo))), ((aMo 28), .inl (ca 0, 62, .inl (zA mo_dayRun))), ((aMo 29), .inl (ca 3, 62, .inl (zA mo_isLonger)))] 83 [(0, .ref (aMo 0)), (3, .int (zI v3))] [] := by
        intro v3 mo_laid mo_driven mo_runFrom mo_runTo mo_size mo_runs mo_foundAt mo_foundRule mo_foundMany mo_found mo_counted mo_isParted mo_maybe mo_dayFrom mo_dayTo mo_dayRun mo_isLonger mo_maybes mo_days mo_over2 mo_longer hf
        unfold fX11_breaksLaw_83 at hf
        refine g_aload_n (pc := 83) C 0 dX11_breaksLaw_83 rfl rfl ?_
        refine g_aload_n (pc := 84) C 0 dX11_breaksLaw_84 rfl rfl ?_
        refine g_get (pc := 85) C zf_X11_68 0 rfl rfl dX11_breaksLaw_85 ?_
        refine g_iload_n (pc := 88) C 1 dX11_breaksLaw_88 rfl rfl ?_
        refine g_iald (pc := 89) C (N := 62) 13 rfl rfl (Nat.le_of_ble_eq_true rfl) dX11_breaksLaw_89 hf (fun hf => ?_)
        refine g_sipush (pc := 90) C dX11_breaksLaw_90 (by decide) ?_
        refine g_iadd (pc := 93) C dX11_breaksLaw_93 ?_
        refine g_iconst (pc := 94) C dX11_breaksLaw_94 ?_
        refine g_aload_n (pc := 95) C 0 dX11_breaksLaw_95 rfl rfl ?_
        refine g_iload_n (pc := 96) C 1 dX11_breaksLaw_96 rfl rfl ?_
        obtain ⟨r_97, hc_97, hf⟩ := Option.bind_eq_some_iff.mp hf
        refine g_callV (pc := 97) C hl0 (wr := [((aMo 5), .inl (ca 0, 4, .inl (zA mo_acts))), ((aMo 7), .inl (ca 0, 240, .inl (zA mo_kindOf))), ((aMo 8), .inl (ca 0, 240, .inl (zA mo_lengthOf))), ((aMo 13), .inl (ca 0, 20160, .inl (zA mo_laid))), ((aMo 14), .inl (ca 0, 20161, .inl (zA mo_driven))), ((aMo 19), .inl (ca 0, 400, .inl (zA mo_foundAt))), ((aMo 20), .inl (ca 0, 400, .inl (zA mo_foundRule))), ((aMo 21), .inl (ca 0, 400, .inl (zA mo_foundMany))), ((aMo 25), .inl (ca 0, 12, .inl (zA mo_maybe))), ((aMo 27), .inl (ca 0, 62, .inl (zA mo_dayTo))), ((aMo 29), .inl (ca 3, 62, .inl (zA mo_isLonger)))]) (k' := 0) (n' := 0) (ws' := fun _ => [((aMo 5), .inl (ca 0, 4, .inl (zA mo_acts))), ((aMo 7), .inl (ca 0, 240, .inl (zA mo_kindOf))), ((aMo 8), .inl (ca 0, 240, .inl (zA mo_lengthOf))), ((aMo 13), .inl (ca 0, 20160, .inl (zA mo_laid))), ((aMo 14), .inl (ca 0, 20161, .inl (zA mo_driven))), ((aMo 19), .inl (ca 0, 400, .inl (zA mo_foundAt))), ((aMo 20), .inl (ca 0, 400, .inl (zA mo_foundRule))), ((aMo 21), .inl (ca 0, 400, .inl (zA mo_foundMany))), ((aMo 25), .inl (ca 0, 12, .inl (zA mo_maybe))), ((aMo 27), .inl (ca 0, 62, .inl (zA mo_dayTo))), ((aMo 29), .inl (ca 3, 62, .inl (zA mo_isLonger))), ((aMo 0), .inr (11, [.ref (aMo 1), .int (zI mo_taped), .ref (aMo 3), .ref (aMo 4), .ref (aMo 5), .ref (aMo 6), .ref (aMo 7), .ref (aMo 8), .ref (aMo 9), .ref (aMo 10), .ref (aMo 11), .ref (aMo 12), .ref (aMo 13), .ref (aMo 14), .ref (aMo 15), .ref (aMo 16), .int (zI mo_size), .int (zI mo_runs), .ref (aMo 19), .ref (aMo 20), .ref (aMo 21), .int (zI mo_found), .int (zI mo_counted), .int (zI mo_isParted), .ref (aMo 25), .ref (aMo 26), .ref (aMo 27), .ref (aMo 28), .ref (aMo 29), .int (zI mo_maybes), .int (zI mo_days), .int (zI mo_over2), .int (zI mo_longer), .ref (aMo 34)])), ((aMo 3), .inl (ca 0, 11, .inl (zA mo_rules))), ((aMo 15), .inl (ca 0, 60, .inl (zA mo_runFrom))), ((aMo 16), .inl (ca 0, 60, .inl (zA mo_runTo))), ((aMo 26), .inl (ca 0, 62, .inl (zA mo_dayFrom))), ((aMo 28), .inl (ca 0, 62, .inl (zA mo_dayRun)))]) (st' := [.int (zI r_97), .int (zI 3), .int (zI ((mo_dayFrom v3.toNat) + 1440)), .ref (aMo 0)]) (kX11_lateOf l D ca aMo mo_taped mo_rules mo_runFrom mo_runTo mo_size mo_runs mo_found mo_counted mo_isParted mo_dayFrom mo_dayRun mo_maybes mo_days mo_over2 mo_longer v3 r_97 hc_97) wml_RX11_180 wim_X11_lateOf wse_X11_lateOf win_RX11 wco_X11_lateOf (nA := 1) rfl (by decide +kernel)  ⟨(Nat.le_of_ble_eq_true rfl), (Nat.le_of_ble_eq_true rfl)⟩ (Nat.le_refl _) (Nat.le_refl _) rfl (by decide) dX11_breaksLaw_97 0 11 rfl rfl rfl [0, 1, 7, 8, 13, 15] [2, 3, 4, 5, 6, 9, 10, 11, 12, 14, 16] rfl rfl rfl (by decide) (by decide) (by decide) rfl rfl (fun _ => rfl) rfl (fun _ => ?_)
        obtain ⟨⟨mo_foundAt_100, mo_foundRule_100, mo_foundMany_100, mo_found_100⟩, hc_100, hf⟩ := Option.bind_eq_some_iff.mp hf
        dsimp only at hf
        refine g_callV (pc := 100) C hl0 (wr := [((aMo 5), .inl (ca 0, 4, .inl (zA mo_acts))), ((aMo 7), .inl (ca 0, 240, .inl (zA mo_kindOf))), ((aMo 8), .inl (ca 0, 240, .inl (zA mo_lengthOf))), ((aMo 13), .inl (ca 0, 20160, .inl (zA mo_laid))), ((aMo 14), .inl (ca 0, 20161, .inl (zA mo_driven))), ((aMo 25), .inl (ca 0, 12, .inl (zA mo_maybe))), ((aMo 27), .inl (ca 0, 62, .inl (zA mo_dayTo))), ((aMo 29), .inl (ca 3, 62, .inl (zA mo_isLonger))), ((aMo 3), .inl (ca 0, 11, .inl (zA mo_rules))), ((aMo 15), .inl (ca 0, 60, .inl (zA mo_runFrom))), ((aMo 16), .inl (ca 0, 60, .inl (zA mo_runTo))), ((aMo 26), .inl (ca 0, 62, .inl (zA mo_dayFrom))), ((aMo 28), .inl (ca 0, 62, .inl (zA mo_dayRun)))]) (k' := 0) (n' := 0) (ws' := fun _ => [((aMo 5), .inl (ca 0, 4, .inl (zA mo_acts))), ((aMo 7), .inl (ca 0, 240, .inl (zA mo_kindOf))), ((aMo 8), .inl (ca 0, 240, .inl (zA mo_lengthOf))), ((aMo 13), .inl (ca 0, 20160, .inl (zA mo_laid))), ((aMo 14), .inl (ca 0, 20161, .inl (zA mo_driven))), ((aMo 25), .inl (ca 0, 12, .inl (zA mo_maybe))), ((aMo 27), .inl (ca 0, 62, .inl (zA mo_dayTo))), ((aMo 29), .inl (ca 3, 62, .inl (zA mo_isLonger))), ((aMo 3), .inl (ca 0, 11, .inl (zA mo_rules))), ((aMo 15), .inl (ca 0, 60, .inl (zA mo_runFrom))), ((aMo 16), .inl (ca 0, 60, .inl (zA mo_runTo))), ((aMo 26), .inl (ca 0, 62, .inl (zA mo_dayFrom))), ((aMo 28), .inl (ca 0, 62, .inl (zA mo_dayRun))), ((aMo 0), .inr (11, [.ref (aMo 1), .int (zI mo_taped), .ref (aMo 3), .ref (aMo 4), .ref (aMo 5), .ref (aMo 6), .ref (aMo 7), .ref (aMo 8), .ref (aMo 9), .ref (aMo 10), .ref (aMo 11), .ref (aMo 12), .ref (aMo 13), .ref (aMo 14), .ref (aMo 15), .ref (aMo 16), .int (zI mo_size), .int (zI mo_runs), .ref (aMo 19), .ref (aMo 20), .ref (aMo 21), .int (zI mo_found_100), .int (zI mo_counted), .int (zI mo_isParted), .ref (aMo 25), .ref (aMo 26), .ref (aMo 27), .ref (aMo 28), .ref (aMo 29), .int (zI mo_maybes), .int (zI mo_days), .int (zI mo_over2), .int (zI mo_longer), .ref (aMo 34)])), ((aMo 19), .inl (ca 0, 400, .inl (zA mo_foundAt_100))), ((aMo 20), .inl (ca 0, 400, .inl (zA mo_foundRule_100))), ((aMo 21), .inl (ca 0, 400, .inl (zA mo_foundMany_100)))]) (st' := []) (kX11_tells l D ca aMo mo_taped mo_size mo_runs mo_foundAt mo_foundRule mo_foundMany mo_found mo_counted mo_isParted mo_maybes mo_days mo_over2 mo_longer ((mo_dayFrom v3.toNat) + 1440) 3 r_97 mo_foundAt_100 mo_foundRule_100 mo_foundMany_100 mo_found_100 hc_100) wml_RX11_147 wim_X11_tells wse_X11_tells win_RX11 wco_X11_tells (nA := 3) rfl (by decide +kernel)  ⟨(Nat.le_of_ble_eq_true rfl), (Nat.le_of_ble_eq_true rfl)⟩ (Nat.le_refl _) (Nat.le_refl _) rfl (by decide) dX11_breaksLaw_100 11 11 rfl rfl rfl [11, 5, 6, 7] [0, 1, 2, 3, 4, 8, 9, 10, 12, 13, 14, 15, 16] rfl rfl rfl (by decide) (by decide) (by decide) rfl rfl (fun _ => rfl) rfl (fun _ => ?_)
        refine g_iinc (pc := 103) C 1 (lv' := [(3, .int (zI (v3 + 1))), (0, .ref (aMo 0))]) dX11_breaksLaw_103 rfl (Nat.le_of_ble_eq_true rfl) rfl ?_
        refine g_goto (pc := 106) C (tgt := 21) dX11_breaksLaw_106 (by decide) ?_
        refine g_sub [13, 8, 0, 1, 2, 3, 4, 9, 10, 14, 15, 16, 5, 11, 6, 12, 7] [1, 0] (by decide) rfl rfl rfl ?_
        exact ih21 _ _ _ _ _ hf
      have H73 : ∀ (v3 : Int) (v4 : Int) (s2 : Int) (s4 : Int) (mo_laid : Nat → Int) (mo_driven : Nat → Int) (mo_runFrom : Nat → Int) (mo_runTo : Nat → Int) (mo_size : Int) (mo_runs : Int) (mo_foundAt : Nat → Int) (mo_foundRule : Nat → Int) (mo_foundMany : Nat → Int) (mo_found : Int) (mo_counted : Int) (mo_isParted : Int) (mo_maybe : Nat → Int) (mo_dayFrom : Nat → Int) (mo_dayTo : Nat → Int) (mo_dayRun : Nat → Int) (mo_isLonger : Nat → Int) (mo_maybes : Int) (mo_days : Int) (mo_over2 : Int) (mo_longer : Int), fX11_breaksLaw_73 (zlp (fX11_breaksLaw_21 mo_rules mo_laid mo_driven mo_runFrom mo_runTo mo_size mo_runs mo_counted mo_isParted mo_maybe mo_dayFrom mo_dayTo mo_dayRun mo_isLonger mo_maybes mo_days mo_over2 mo_longer) n21) v3 v4 s2 s4 mo_rules mo_driven mo_runFrom mo_runTo mo_size mo_foundAt mo_foundRule mo_foundMany mo_found mo_dayFrom mo_dayRun = some (mo_laid_o, mo_driven_o, mo_runFrom_o, mo_runTo_o, mo_size_o, mo_runs_o, mo_foundAt_o, mo_foundRule_o, mo_foundMany_o, mo_found_o, mo_counted_o, mo_isParted_o, mo_maybe_o, mo_dayFrom_o, mo_dayTo_o, mo_dayRun_o, mo_isLonger_o, mo_maybes_o, mo_days_o, mo_over2_o, mo_longer_o) → Zd D Γ 0 0 [((aMo 0), .inr (11, [.ref (aMo 1), .int (zI mo_taped), .ref (aMo 3), .ref (aMo 4), .ref (aMo 5), .ref (aMo 6), .ref (aMo 7), .ref (aMo 8), .ref (aMo 9), .ref (aMo 10), .ref (aMo 11), .ref (aMo 12), .ref (aMo 13), .ref (aMo 14), .ref (aMo 15), .ref (aMo 16), .int (zI mo_size), .int (zI mo_runs), .ref (aMo 19), .ref (aMo 20), .ref (aMo 21), .int (zI mo_found), .int (zI mo_counted), .int (zI mo_isParted), .ref (aMo 25), .ref (aMo 26), .ref (aMo 27), .ref (aMo 28), .ref (aMo 29), .int (zI mo_maybes), .int (zI mo_days), .int (zI mo_over2), .int (zI mo_longer), .ref (aMo 34)])), ((aMo 3), .inl (ca 0, 11, .inl (zA mo_rules))), ((aMo 5), .inl (ca 0, 4, .inl (zA mo_acts))), ((aMo 7), .inl (ca 0, 240, .inl (zA mo_kindOf))), ((aMo 8), .inl (ca 0, 240, .inl (zA mo_lengthOf))), ((aMo 13), .inl (ca 0, 20160, .inl (zA mo_laid))), ((aMo 14), .inl (ca 0, 20161, .inl (zA mo_driven))), ((aMo 15), .inl (ca 0, 60, .inl (zA mo_runFrom))), ((aMo 16), .inl (ca 0, 60, .inl (zA mo_runTo))), ((aMo 19), .inl (ca 0, 400, .inl (zA mo_foundAt))), ((aMo 20), .inl (ca 0, 400, .inl (zA mo_foundRule))), ((aMo 21), .inl (ca 0, 400, .inl (zA mo_foundMany))), ((aMo 25), .inl (ca 0, 12, .inl (zA mo_maybe))), ((aMo 26), .inl (ca 0, 62, .inl (zA mo_dayFrom))), ((aMo 27), .inl (ca 0, 62, .inl (zA mo_dayTo))), ((aMo 28), .inl (ca 0, 62, .inl (zA mo_dayRun))), ((aMo 29), .inl (ca 3, 62, .inl (zA mo_isLonger)))] 73 [(0, .ref (aMo 0)), (3, .int (zI v3)), (4, .int (zI v4))] [.int (zI s4), .ref (aMo 3), .int (zI s2), .ref (aMo 0), .ref (aMo 0)] := by
        intro v3 v4 s2 s4 mo_laid mo_driven mo_runFrom mo_runTo mo_size mo_runs mo_foundAt mo_foundRule mo_foundMany mo_found mo_counted mo_isParted mo_maybe mo_dayFrom mo_dayTo mo_dayRun mo_isLonger mo_maybes mo_days mo_over2 mo_longer hf
        unfold fX11_breaksLaw_73 at hf
        refine g_iald (pc := 73) C (N := 11) 1 rfl rfl (Nat.le_of_ble_eq_true rfl) dX11_breaksLaw_73 hf (fun hf => ?_)
        obtain ⟨r_74, hc_74, hf⟩ := Option.bind_eq_some_iff.mp hf
        refine g_callV (pc := 74) C hl0 (wr := [((aMo 3), .inl (ca 0, 11, .inl (zA mo_rules))), ((aMo 5), .inl (ca 0, 4, .inl (zA mo_acts))), ((aMo 7), .inl (ca 0, 240, .inl (zA mo_kindOf))), ((aMo 8), .inl (ca 0, 240, .inl (zA mo_lengthOf))), ((aMo 13), .inl (ca 0, 20160, .inl (zA mo_laid))), ((aMo 15), .inl (ca 0, 60, .inl (zA mo_runFrom))), ((aMo 16), .inl (ca 0, 60, .inl (zA mo_runTo))), ((aMo 19), .inl (ca 0, 400, .inl (zA mo_foundAt))), ((aMo 20), .inl (ca 0, 400, .inl (zA mo_foundRule))), ((aMo 21), .inl (ca 0, 400, .inl (zA mo_foundMany))), ((aMo 25), .inl (ca 0, 12, .inl (zA mo_maybe))), ((aMo 26), .inl (ca 0, 62, .inl (zA mo_dayFrom))), ((aMo 27), .inl (ca 0, 62, .inl (zA mo_dayTo))), ((aMo 28), .inl (ca 0, 62, .inl (zA mo_dayRun))), ((aMo 29), .inl (ca 3, 62, .inl (zA mo_isLonger)))]) (k' := 0) (n' := 0) (ws' := fun _ => [((aMo 3), .inl (ca 0, 11, .inl (zA mo_rules))), ((aMo 5), .inl (ca 0, 4, .inl (zA mo_acts))), ((aMo 7), .inl (ca 0, 240, .inl (zA mo_kindOf))), ((aMo 8), .inl (ca 0, 240, .inl (zA mo_lengthOf))), ((aMo 13), .inl (ca 0, 20160, .inl (zA mo_laid))), ((aMo 15), .inl (ca 0, 60, .inl (zA mo_runFrom))), ((aMo 16), .inl (ca 0, 60, .inl (zA mo_runTo))), ((aMo 19), .inl (ca 0, 400, .inl (zA mo_foundAt))), ((aMo 20), .inl (ca 0, 400, .inl (zA mo_foundRule))), ((aMo 21), .inl (ca 0, 400, .inl (zA mo_foundMany))), ((aMo 25), .inl (ca 0, 12, .inl (zA mo_maybe))), ((aMo 26), .inl (ca 0, 62, .inl (zA mo_dayFrom))), ((aMo 27), .inl (ca 0, 62, .inl (zA mo_dayTo))), ((aMo 28), .inl (ca 0, 62, .inl (zA mo_dayRun))), ((aMo 29), .inl (ca 3, 62, .inl (zA mo_isLonger))), ((aMo 0), .inr (11, [.ref (aMo 1), .int (zI mo_taped), .ref (aMo 3), .ref (aMo 4), .ref (aMo 5), .ref (aMo 6), .ref (aMo 7), .ref (aMo 8), .ref (aMo 9), .ref (aMo 10), .ref (aMo 11), .ref (aMo 12), .ref (aMo 13), .ref (aMo 14), .ref (aMo 15), .ref (aMo 16), .int (zI mo_size), .int (zI mo_runs), .ref (aMo 19), .ref (aMo 20), .ref (aMo 21), .int (zI mo_found), .int (zI mo_counted), .int (zI mo_isParted), .ref (aMo 25), .ref (aMo 26), .ref (aMo 27), .ref (aMo 28), .ref (aMo 29), .int (zI mo_maybes), .int (zI mo_days), .int (zI mo_over2), .int (zI mo_longer), .ref (aMo 34)])), ((aMo 14), .inl (ca 0, 20161, .inl (zA mo_driven)))]) (st' := [.int (zI r_74), .ref (aMo 0)]) (kX11_goesAbove l D ca aMo mo_taped mo_driven mo_size mo_runs mo_found mo_counted mo_isParted mo_maybes mo_days mo_over2 mo_longer s2 (mo_rules s4.toNat) r_74 hc_74) wml_RX11_208 wim_X11_goesAbove wse_X11_goesAbove win_RX11 wco_X11_goesAbove (nA := 2) rfl (by decide +kernel)  ⟨(Nat.le_of_ble_eq_true rfl), (Nat.le_of_ble_eq_true rfl)⟩ (Nat.le_refl _) (Nat.le_refl _) rfl (by decide) dX11_breaksLaw_74 0 11 rfl rfl rfl [0, 6] [1, 2, 3, 4, 5, 7, 8, 9, 10, 11, 12, 13, 14, 15, 16] rfl rfl rfl (by decide) (by decide) (by decide) rfl rfl (fun _ => rfl) rfl (fun _ => ?_)
        refine g_iconst (pc := 77) C dX11_breaksLaw_77 ?_
        refine g_iload (pc := 78) C 2 dX11_breaksLaw_78 rfl ?_
        obtain ⟨⟨mo_foundAt_80, mo_foundRule_80, mo_foundMany_80, mo_found_80⟩, hc_80, hf⟩ := Option.bind_eq_some_iff.mp hf
        dsimp only at hf
        refine g_callV (pc := 80) C hl0 (wr := [((aMo 3), .inl (ca 0, 11, .inl (zA mo_rules))), ((aMo 5), .inl (ca 0, 4, .inl (zA mo_acts))), ((aMo 7), .inl (ca 0, 240, .inl (zA mo_kindOf))), ((aMo 8), .inl (ca 0, 240, .inl (zA mo_lengthOf))), ((aMo 13), .inl (ca 0, 20160, .inl (zA mo_laid))), ((aMo 15), .inl (ca 0, 60, .inl (zA mo_runFrom))), ((aMo 16), .inl (ca 0, 60, .inl (zA mo_runTo))), ((aMo 25), .inl (ca 0, 12, .inl (zA mo_maybe))), ((aMo 26), .inl (ca 0, 62, .inl (zA mo_dayFrom))), ((aMo 27), .inl (ca 0, 62, .inl (zA mo_dayTo))), ((aMo 28), .inl (ca 0, 62, .inl (zA mo_dayRun))), ((aMo 29), .inl (ca 3, 62, .inl (zA mo_isLonger))), ((aMo 14), .inl (ca 0, 20161, .inl (zA mo_driven)))]) (k' := 0) (n' := 0) (ws' := fun _ => [((aMo 3), .inl (ca 0, 11, .inl (zA mo_rules))), ((aMo 5), .inl (ca 0, 4, .inl (zA mo_acts))), ((aMo 7), .inl (ca 0, 240, .inl (zA mo_kindOf))), ((aMo 8), .inl (ca 0, 240, .inl (zA mo_lengthOf))), ((aMo 13), .inl (ca 0, 20160, .inl (zA mo_laid))), ((aMo 15), .inl (ca 0, 60, .inl (zA mo_runFrom))), ((aMo 16), .inl (ca 0, 60, .inl (zA mo_runTo))), ((aMo 25), .inl (ca 0, 12, .inl (zA mo_maybe))), ((aMo 26), .inl (ca 0, 62, .inl (zA mo_dayFrom))), ((aMo 27), .inl (ca 0, 62, .inl (zA mo_dayTo))), ((aMo 28), .inl (ca 0, 62, .inl (zA mo_dayRun))), ((aMo 29), .inl (ca 3, 62, .inl (zA mo_isLonger))), ((aMo 14), .inl (ca 0, 20161, .inl (zA mo_driven))), ((aMo 0), .inr (11, [.ref (aMo 1), .int (zI mo_taped), .ref (aMo 3), .ref (aMo 4), .ref (aMo 5), .ref (aMo 6), .ref (aMo 7), .ref (aMo 8), .ref (aMo 9), .ref (aMo 10), .ref (aMo 11), .ref (aMo 12), .ref (aMo 13), .ref (aMo 14), .ref (aMo 15), .ref (aMo 16), .int (zI mo_size), .int (zI mo_runs), .ref (aMo 19), .ref (aMo 20), .ref (aMo 21), .int (zI mo_found_80), .int (zI mo_counted), .int (zI mo_isParted), .ref (aMo 25), .ref (aMo 26), .ref (aMo 27), .ref (aMo 28), .ref (aMo 29), .int (zI mo_maybes), .int (zI mo_days), .int (zI mo_over2), .int (zI mo_longer), .ref (aMo 34)])), ((aMo 19), .inl (ca 0, 400, .inl (zA mo_foundAt_80))), ((aMo 20), .inl (ca 0, 400, .inl (zA mo_foundRule_80))), ((aMo 21), .inl (ca 0, 400, .inl (zA mo_foundMany_80)))]) (st' := []) (kX11_tells l D ca aMo mo_taped mo_size mo_runs mo_foundAt mo_foundRule mo_foundMany mo_found mo_counted mo_isParted mo_maybes mo_days mo_over2 mo_longer r_74 2 v4 mo_foundAt_80 mo_foundRule_80 mo_foundMany_80 mo_found_80 hc_80) wml_RX11_147 wim_X11_tells wse_X11_tells win_RX11 wco_X11_tells (nA := 3) rfl (by decide +kernel)  ⟨(Nat.le_of_ble_eq_true rfl), (Nat.le_of_ble_eq_true rfl)⟩ (Nat.le_refl _) (Nat.le_refl _) rfl (by decide) dX11_breaksLaw_80 15 11 rfl rfl rfl [15, 7, 8, 9] [0, 1, 2, 3, 4, 5, 6, 10, 11, 12, 13, 14, 16] rfl rfl rfl (by decide) (by decide) (by decide) rfl rfl (fun _ => rfl) rfl (fun _ => ?_)
        refine g_sub [13, 0, 1, 2, 3, 4, 12, 5, 6, 14, 15, 16, 7, 8, 9, 10, 11] [0, 1] (by decide) rfl rfl rfl ?_
        exact H83 _ _ _ _ _ _ _ _ _ _ _ _ _ _ _ _ _ _ _ _ _ _ hf
      intro v3 mo_foundAt mo_foundRule mo_foundMany mo_found hf
      rw [zlp_s] at hf
      unfold fX11_breaksLaw_21 at hf
      dsimp only at hf
      refine g_iload_n (pc := 21) C 1 dX11_breaksLaw_21 rfl rfl ?_
      refine g_aload_n (pc := 22) C 0 dX11_breaksLaw_22 rfl rfl ?_
      refine g_get (pc := 23) C zf_X11_154 0 rfl rfl dX11_breaksLaw_23 ?_
      refine g_icmp_ge (pc := 26) C (tgt := 109) dX11_breaksLaw_26 (by decide) hf (fun hf => ?_) (fun hf => ?_)
      · refine g_iconst (pc := 109) C dX11_breaksLaw_109 ?_
        refine g_istore_n (pc := 110) C (lv' := [(3, .int (zI 0)), (0, .ref (aMo 0))]) dX11_breaksLaw_110 rfl (Nat.le_of_ble_eq_true rfl) rfl ?_
        refine g_sub [0, 1, 2, 3, 4, 5, 6, 7, 8, 9, 10, 11, 12, 13, 14, 15, 16] [1, 0] (by decide) rfl rfl rfl ?_
        exact H111 _ _ _ _ _ _ _ _ _ _ _ _ _ _ _ _ _ _ _ _ _ _ _ hf
      · refine g_aload_n (pc := 29) C 0 dX11_breaksLaw_29 rfl rfl ?_
        refine g_iload_n (pc := 30) C 1 dX11_breaksLaw_30 rfl rfl ?_
        refine g_aload_n (pc := 31) C 0 dX11_breaksLaw_31 rfl rfl ?_
        refine g_get (pc := 32) C zf_X11_77 0 rfl rfl dX11_breaksLaw_32 ?_
        refine g_iload_n (pc := 35) C 1 dX11_breaksLaw_35 rfl rfl ?_
        refine g_zald (pc := 36) C (N := 62) 16 rfl rfl (Nat.le_of_ble_eq_true rfl) dX11_breaksLaw_36 hf (fun hf => ?_)
        obtain ⟨r_37, hc_37, hf⟩ := Option.bind_eq_some_iff.mp hf
        refine g_callV (pc := 37) C hl0 (wr := [((aMo 5), .inl (ca 0, 4, .inl (zA mo_acts))), ((aMo 7), .inl (ca 0, 240, .inl (zA mo_kindOf))), ((aMo 8), .inl (ca 0, 240, .inl (zA mo_lengthOf))), ((aMo 13), .inl (ca 0, 20160, .inl (zA mo_laid))), ((aMo 15), .inl (ca 0, 60, .inl (zA mo_runFrom))), ((aMo 16), .inl (ca 0, 60, .inl (zA mo_runTo))), ((aMo 19), .inl (ca 0, 400, .inl (zA mo_foundAt))), ((aMo 20), .inl (ca 0, 400, .inl (zA mo_foundRule))), ((aMo 21), .inl (ca 0, 400, .inl (zA mo_foundMany))), ((aMo 25), .inl (ca 0, 12, .inl (zA mo_maybe))), ((aMo 28), .inl (ca 0, 62, .inl (zA mo_dayRun))), ((aMo 29), .inl (ca 3, 62, .inl (zA mo_isLonger)))]) (k' := 0) (n' := 0) (ws' := fun _ => [((aMo 5), .inl (ca 0, 4, .inl (zA mo_acts))), ((aMo 7), .inl (ca 0, 240, .inl (zA mo_kindOf))), ((aMo 8), .inl (ca 0, 240, .inl (zA mo_lengthOf))), ((aMo 13), .inl (ca 0, 20160, .inl (zA mo_laid))), ((aMo 15), .inl (ca 0, 60, .inl (zA mo_runFrom))), ((aMo 16), .inl (ca 0, 60, .inl (zA mo_runTo))), ((aMo 19), .inl (ca 0, 400, .inl (zA mo_foundAt))), ((aMo 20), .inl (ca 0, 400, .inl (zA mo_foundRule))), ((aMo 21), .inl (ca 0, 400, .inl (zA mo_foundMany))), ((aMo 25), .inl (ca 0, 12, .inl (zA mo_maybe))), ((aMo 28), .inl (ca 0, 62, .inl (zA mo_dayRun))), ((aMo 29), .inl (ca 3, 62, .inl (zA mo_isLonger))), ((aMo 0), .inr (11, [.ref (aMo 1), .int (zI mo_taped), .ref (aMo 3), .ref (aMo 4), .ref (aMo 5), .ref (aMo 6), .ref (aMo 7), .ref (aMo 8), .ref (aMo 9), .ref (aMo 10), .ref (aMo 11), .ref (aMo 12), .ref (aMo 13), .ref (aMo 14), .ref (aMo 15), .ref (aMo 16), .int (zI mo_size), .int (zI mo_runs), .ref (aMo 19), .ref (aMo 20), .ref (aMo 21), .int (zI mo_found), .int (zI mo_counted), .int (zI mo_isParted), .ref (aMo 25), .ref (aMo 26), .ref (aMo 27), .ref (aMo 28), .ref (aMo 29), .int (zI mo_maybes), .int (zI mo_days), .int (zI mo_over2), .int (zI mo_longer), .ref (aMo 34)])), ((aMo 3), .inl (ca 0, 11, .inl (zA mo_rules))), ((aMo 14), .inl (ca 0, 20161, .inl (zA mo_driven))), ((aMo 26), .inl (ca 0, 62, .inl (zA mo_dayFrom))), ((aMo 27), .inl (ca 0, 62, .inl (zA mo_dayTo)))]) (st' := [.int (zI r_37)]) (kX11_overOf l D ca aMo mo_taped mo_rules mo_driven mo_size mo_runs mo_found mo_counted mo_isParted mo_dayFrom mo_dayTo mo_maybes mo_days mo_over2 mo_longer v3 (mo_isLonger v3.toNat) r_37 hc_37) wml_RX11_167 wim_X11_overOf wse_X11_overOf win_RX11 wco_X11_overOf (nA := 2) rfl (by decide +kernel)  ⟨(Nat.le_of_ble_eq_true rfl), (Nat.le_of_ble_eq_true rfl)⟩ (Nat.le_refl _) (Nat.le_refl _) rfl (by decide) dX11_breaksLaw_37 0 11 rfl rfl rfl [0, 1, 6, 13, 14] [2, 3, 4, 5, 7, 8, 9, 10, 11, 12, 15, 16] rfl rfl rfl (by decide) (by decide) (by decide) rfl rfl (fun _ => rfl) rfl (fun _ => ?_)
        refine g_istore (pc := 40) C (lv' := [(4, .int (zI r_37)), (0, .ref (aMo 0)), (3, .int (zI v3))]) dX11_breaksLaw_40 (Nat.le_of_ble_eq_true rfl) rfl ?_
        refine g_iload (pc := 42) C 0 dX11_breaksLaw_42 rfl ?_
        refine g_if_le (pc := 44) C (tgt := 83) dX11_breaksLaw_44 (by decide) hf (fun hf => ?_) (fun hf => ?_)
        · refine g_sub [12, 13, 0, 1, 2, 3, 14, 4, 5, 6, 7, 8, 9, 15, 16, 10, 11] [1, 2] (by decide) rfl rfl rfl ?_
          exact H83 _ _ _ _ _ _ _ _ _ _ _ _ _ _ _ _ _ _ _ _ _ _ hf
        · refine g_aload_n (pc := 47) C 1 dX11_breaksLaw_47 rfl rfl ?_
          refine g_aload_n (pc := 48) C 1 dX11_breaksLaw_48 rfl rfl ?_
          refine g_aload_n (pc := 49) C 1 dX11_breaksLaw_49 rfl rfl ?_
          refine g_get (pc := 50) C zf_X11_68 12 rfl rfl dX11_breaksLaw_50 ?_
          refine g_iload_n (pc := 53) C 2 dX11_breaksLaw_53 rfl rfl ?_
          refine g_iald (pc := 54) C (N := 62) 15 rfl rfl (Nat.le_of_ble_eq_true rfl) dX11_breaksLaw_54 hf (fun hf => ?_)
          refine g_aload_n (pc := 55) C 1 dX11_breaksLaw_55 rfl rfl ?_
          refine g_get (pc := 56) C zf_X11_13 12 rfl rfl dX11_breaksLaw_56 ?_
          refine g_aload_n (pc := 59) C 1 dX11_breaksLaw_59 rfl rfl ?_
          refine g_get (pc := 60) C zf_X11_77 12 rfl rfl dX11_breaksLaw_60 ?_
          refine g_iload_n (pc := 63) C 2 dX11_breaksLaw_63 rfl rfl ?_
          refine g_zald (pc := 64) C (N := 62) 11 rfl rfl (Nat.le_of_ble_eq_true rfl) dX11_breaksLaw_64 hf (fun hf => ?_)
          refine g_if_eq (pc := 65) C (tgt := 72) dX11_breaksLaw_65 (by decide) hf (fun hf => ?_) (fun hf => ?_)
          · refine g_iconst (pc := 72) C dX11_breaksLaw_72 ?_
            refine g_sub [12, 13, 0, 1, 2, 3, 14, 4, 5, 6, 7, 8, 9, 15, 16, 10, 11] [1, 2, 0] (by decide) rfl rfl rfl ?_
            exact H73 _ _ _ _ _ _ _ _ _ _ _ _ _ _ _ _ _ _ _ _ _ _ _ _ _ hf
          · refine g_iconst (pc := 68) C dX11_breaksLaw_68 ?_
            refine g_goto (pc := 69) C (tgt := 73) dX11_breaksLaw_69 (by decide) ?_
            refine g_sub [12, 13, 0, 1, 2, 3, 14, 4, 5, 6, 7, 8, 9, 15, 16, 10, 11] [1, 2, 0] (by decide) rfl rfl rfl ?_
            exact H73 _ _ _ _ _ _ _ _ _ _ _ _ _ _ _ _ _ _ _ _ _ _ _ _ _ hf
  unfold fX11_breaksLaw at hf
  refine g_aload_n (pc := 0) C 0 dX11_breaksLaw_0 rfl rfl ?_
  refine g_iload_n (pc := 1) C 1 dX11_breaksLaw_1 rfl rfl ?_
  refine g_iload_n (pc := 2) C 2 dX11_breaksLaw_2 rfl rfl ?_
  obtain ⟨⟨mo_laid_3, mo_driven_3, mo_runFrom_3, mo_runTo_3, mo_size_3, mo_runs_3⟩, hc_3, hf⟩ := Option.bind_eq_some_iff.mp hf
  dsimp only at hf
  refine g_callV (pc := 3) C hl0 (wr := [((aMo 3), .inl (ca 0, 11, .inl (zA mo_rules))), ((aMo 19), .inl (ca 0, 400, .inl (zA mo_foundAt))), ((aMo 20), .inl (ca 0, 400, .inl (zA mo_foundRule))), ((aMo 21), .inl (ca 0, 400, .inl (zA mo_foundMany))), ((aMo 25), .inl (ca 0, 12, .inl (zA mo_maybe))), ((aMo 26), .inl (ca 0, 62, .inl (zA mo_dayFrom))), ((aMo 27), .inl (ca 0, 62, .inl (zA mo_dayTo))), ((aMo 28), .inl (ca 0, 62, .inl (zA mo_dayRun))), ((aMo 29), .inl (ca 3, 62, .inl (zA mo_isLonger)))]) (k' := 0) (n' := 0) (ws' := fun _ => [((aMo 3), .inl (ca 0, 11, .inl (zA mo_rules))), ((aMo 19), .inl (ca 0, 400, .inl (zA mo_foundAt))), ((aMo 20), .inl (ca 0, 400, .inl (zA mo_foundRule))), ((aMo 21), .inl (ca 0, 400, .inl (zA mo_foundMany))), ((aMo 25), .inl (ca 0, 12, .inl (zA mo_maybe))), ((aMo 26), .inl (ca 0, 62, .inl (zA mo_dayFrom))), ((aMo 27), .inl (ca 0, 62, .inl (zA mo_dayTo))), ((aMo 28), .inl (ca 0, 62, .inl (zA mo_dayRun))), ((aMo 29), .inl (ca 3, 62, .inl (zA mo_isLonger))), ((aMo 0), .inr (11, [.ref (aMo 1), .int (zI mo_taped), .ref (aMo 3), .ref (aMo 4), .ref (aMo 5), .ref (aMo 6), .ref (aMo 7), .ref (aMo 8), .ref (aMo 9), .ref (aMo 10), .ref (aMo 11), .ref (aMo 12), .ref (aMo 13), .ref (aMo 14), .ref (aMo 15), .ref (aMo 16), .int (zI mo_size_3), .int (zI mo_runs_3), .ref (aMo 19), .ref (aMo 20), .ref (aMo 21), .int (zI mo_found), .int (zI mo_counted), .int (zI mo_isParted), .ref (aMo 25), .ref (aMo 26), .ref (aMo 27), .ref (aMo 28), .ref (aMo 29), .int (zI mo_maybes), .int (zI mo_days), .int (zI mo_over2), .int (zI mo_longer), .ref (aMo 34)])), ((aMo 5), .inl (ca 0, 4, .inl (zA mo_acts))), ((aMo 7), .inl (ca 0, 240, .inl (zA mo_kindOf))), ((aMo 8), .inl (ca 0, 240, .inl (zA mo_lengthOf))), ((aMo 13), .inl (ca 0, 20160, .inl (zA mo_laid_3))), ((aMo 14), .inl (ca 0, 20161, .inl (zA mo_driven_3))), ((aMo 15), .inl (ca 0, 60, .inl (zA mo_runFrom_3))), ((aMo 16), .inl (ca 0, 60, .inl (zA mo_runTo_3)))]) (st' := []) (kX11_lays l D ca aMo mo_taped mo_acts mo_kindOf mo_lengthOf mo_laid mo_driven mo_runFrom mo_runTo mo_size mo_runs mo_found mo_counted mo_isParted mo_maybes mo_days mo_over2 mo_longer v1 v2 mo_laid_3 mo_driven_3 mo_runFrom_3 mo_runTo_3 mo_size_3 mo_runs_3 hc_3) wml_RX11_198 wim_X11_lays wse_X11_lays win_RX11 wco_X11_lays (nA := 2) rfl (by decide +kernel)  ⟨(Nat.le_of_ble_eq_true rfl), (Nat.le_of_ble_eq_true rfl)⟩ (Nat.le_refl _) (Nat.le_refl _) rfl (by decide) dX11_breaksLaw_3 0 11 rfl rfl rfl [0, 2, 3, 4, 5, 6, 7, 8] [1, 9, 10, 11, 12, 13, 14, 15, 16] rfl rfl rfl (by decide) (by decide) (by decide) rfl rfl (fun _ => rfl) rfl (fun _ => ?_)
  refine g_aload_n (pc := 6) C 0 dX11_breaksLaw_6 rfl rfl ?_
  refine g_iconst (pc := 7) C dX11_breaksLaw_7 ?_
  refine g_put (pc := 8) C zf_X11_131 tyX11 tyX11_ok nmX11 (v := .int (zI 0)) (ws' := [((aMo 3), .inl (ca 0, 11, .inl (zA mo_rules))), ((aMo 19), .inl (ca 0, 400, .inl (zA mo_foundAt))), ((aMo 20), .inl (ca 0, 400, .inl (zA mo_foundRule))), ((aMo 21), .inl (ca 0, 400, .inl (zA mo_foundMany))), ((aMo 25), .inl (ca 0, 12, .inl (zA mo_maybe))), ((aMo 26), .inl (ca 0, 62, .inl (zA mo_dayFrom))), ((aMo 27), .inl (ca 0, 62, .inl (zA mo_dayTo))), ((aMo 28), .inl (ca 0, 62, .inl (zA mo_dayRun))), ((aMo 29), .inl (ca 3, 62, .inl (zA mo_isLonger))), ((aMo 0), .inr (11, [.ref (aMo 1), .int (zI mo_taped), .ref (aMo 3), .ref (aMo 4), .ref (aMo 5), .ref (aMo 6), .ref (aMo 7), .ref (aMo 8), .ref (aMo 9), .ref (aMo 10), .ref (aMo 11), .ref (aMo 12), .ref (aMo 13), .ref (aMo 14), .ref (aMo 15), .ref (aMo 16), .int (zI mo_size_3), .int (zI mo_runs_3), .ref (aMo 19), .ref (aMo 20), .ref (aMo 21), .int (zI 0), .int (zI mo_counted), .int (zI mo_isParted), .ref (aMo 25), .ref (aMo 26), .ref (aMo 27), .ref (aMo 28), .ref (aMo 29), .int (zI mo_maybes), .int (zI mo_days), .int (zI mo_over2), .int (zI mo_longer), .ref (aMo 34)])), ((aMo 5), .inl (ca 0, 4, .inl (zA mo_acts))), ((aMo 7), .inl (ca 0, 240, .inl (zA mo_kindOf))), ((aMo 8), .inl (ca 0, 240, .inl (zA mo_lengthOf))), ((aMo 13), .inl (ca 0, 20160, .inl (zA mo_laid_3))), ((aMo 14), .inl (ca 0, 20161, .inl (zA mo_driven_3))), ((aMo 15), .inl (ca 0, 60, .inl (zA mo_runFrom_3))), ((aMo 16), .inl (ca 0, 60, .inl (zA mo_runTo_3)))]) 9 rfl rfl rfl rfl rfl (Nat.le_of_ble_eq_true rfl) rfl rfl dX11_breaksLaw_8 ?_
  refine g_aload_n (pc := 11) C 0 dX11_breaksLaw_11 rfl rfl ?_
  obtain ⟨⟨mo_foundAt_12, mo_foundRule_12, mo_foundMany_12, mo_found_12, mo_counted_12, mo_isParted_12⟩, hc_12, hf⟩ := Option.bind_eq_some_iff.mp hf
  dsimp only at hf
  refine g_callV (pc := 12) C hl0 (wr := [((aMo 25), .inl (ca 0, 12, .inl (zA mo_maybe))), ((aMo 26), .inl (ca 0, 62, .inl (zA mo_dayFrom))), ((aMo 27), .inl (ca 0, 62, .inl (zA mo_dayTo))), ((aMo 28), .inl (ca 0, 62, .inl (zA mo_dayRun))), ((aMo 29), .inl (ca 3, 62, .inl (zA mo_isLonger))), ((aMo 5), .inl (ca 0, 4, .inl (zA mo_acts))), ((aMo 7), .inl (ca 0, 240, .inl (zA mo_kindOf))), ((aMo 8), .inl (ca 0, 240, .inl (zA mo_lengthOf))), ((aMo 14), .inl (ca 0, 20161, .inl (zA mo_driven_3)))]) (k' := 0) (n' := 0) (ws' := fun _ => [((aMo 25), .inl (ca 0, 12, .inl (zA mo_maybe))), ((aMo 26), .inl (ca 0, 62, .inl (zA mo_dayFrom))), ((aMo 27), .inl (ca 0, 62, .inl (zA mo_dayTo))), ((aMo 28), .inl (ca 0, 62, .inl (zA mo_dayRun))), ((aMo 29), .inl (ca 3, 62, .inl (zA mo_isLonger))), ((aMo 5), .inl (ca 0, 4, .inl (zA mo_acts))), ((aMo 7), .inl (ca 0, 240, .inl (zA mo_kindOf))), ((aMo 8), .inl (ca 0, 240, .inl (zA mo_lengthOf))), ((aMo 14), .inl (ca 0, 20161, .inl (zA mo_driven_3))), ((aMo 0), .inr (11, [.ref (aMo 1), .int (zI mo_taped), .ref (aMo 3), .ref (aMo 4), .ref (aMo 5), .ref (aMo 6), .ref (aMo 7), .ref (aMo 8), .ref (aMo 9), .ref (aMo 10), .ref (aMo 11), .ref (aMo 12), .ref (aMo 13), .ref (aMo 14), .ref (aMo 15), .ref (aMo 16), .int (zI mo_size_3), .int (zI mo_runs_3), .ref (aMo 19), .ref (aMo 20), .ref (aMo 21), .int (zI mo_found_12), .int (zI mo_counted_12), .int (zI mo_isParted_12), .ref (aMo 25), .ref (aMo 26), .ref (aMo 27), .ref (aMo 28), .ref (aMo 29), .int (zI mo_maybes), .int (zI mo_days), .int (zI mo_over2), .int (zI mo_longer), .ref (aMo 34)])), ((aMo 3), .inl (ca 0, 11, .inl (zA mo_rules))), ((aMo 13), .inl (ca 0, 20160, .inl (zA mo_laid_3))), ((aMo 15), .inl (ca 0, 60, .inl (zA mo_runFrom_3))), ((aMo 16), .inl (ca 0, 60, .inl (zA mo_runTo_3))), ((aMo 19), .inl (ca 0, 400, .inl (zA mo_foundAt_12))), ((aMo 20), .inl (ca 0, 400, .inl (zA mo_foundRule_12))), ((aMo 21), .inl (ca 0, 400, .inl (zA mo_foundMany_12)))]) (st' := []) (kX11_ruleOne l D ca aMo mo_taped mo_rules mo_laid_3 mo_runFrom_3 mo_runTo_3 mo_size_3 mo_runs_3 mo_foundAt mo_foundRule mo_foundMany 0 mo_counted mo_isParted mo_maybes mo_days mo_over2 mo_longer mo_foundAt_12 mo_foundRule_12 mo_foundMany_12 mo_found_12 mo_counted_12 mo_isParted_12 hc_12) wml_RX11_202 wim_X11_ruleOne wse_X11_ruleOne win_RX11 wco_X11_ruleOne (nA := 0) rfl (by decide +kernel)  ⟨(Nat.le_of_ble_eq_true rfl), (Nat.le_of_ble_eq_true rfl)⟩ (Nat.le_refl _) (Nat.le_refl _) rfl (by decide) dX11_breaksLaw_12 9 11 rfl rfl rfl [9, 0, 13, 15, 16, 1, 2, 3] [4, 5, 6, 7, 8, 10, 11, 12, 14] rfl rfl rfl (by decide) (by decide) (by decide) rfl rfl (fun _ => rfl) rfl (fun _ => ?_)
  refine g_aload_n (pc := 15) C 0 dX11_breaksLaw_15 rfl rfl ?_
  obtain ⟨⟨mo_maybe_16, mo_dayFrom_16, mo_dayTo_16, mo_dayRun_16, mo_isLonger_16, mo_maybes_16, mo_days_16, mo_over2_16, mo_longer_16⟩, hc_16, hf⟩ := Option.bind_eq_some_iff.mp hf
  dsimp only at hf
  refine g_callV (pc := 16) C hl0 (wr := [((aMo 5), .inl (ca 0, 4, .inl (zA mo_acts))), ((aMo 7), .inl (ca 0, 240, .inl (zA mo_kindOf))), ((aMo 8), .inl (ca 0, 240, .inl (zA mo_lengthOf))), ((aMo 13), .inl (ca 0, 20160, .inl (zA mo_laid_3))), ((aMo 19), .inl (ca 0, 400, .inl (zA mo_foundAt_12))), ((aMo 20), .inl (ca 0, 400, .inl (zA mo_foundRule_12))), ((aMo 21), .inl (ca 0, 400, .inl (zA mo_foundMany_12)))]) (k' := 0) (n' := 0) (ws' := fun _ => [((aMo 5), .inl (ca 0, 4, .inl (zA mo_acts))), ((aMo 7), .inl (ca 0, 240, .inl (zA mo_kindOf))), ((aMo 8), .inl (ca 0, 240, .inl (zA mo_lengthOf))), ((aMo 13), .inl (ca 0, 20160, .inl (zA mo_laid_3))), ((aMo 19), .inl (ca 0, 400, .inl (zA mo_foundAt_12))), ((aMo 20), .inl (ca 0, 400, .inl (zA mo_foundRule_12))), ((aMo 21), .inl (ca 0, 400, .inl (zA mo_foundMany_12))), ((aMo 0), .inr (11, [.ref (aMo 1), .int (zI mo_taped), .ref (aMo 3), .ref (aMo 4), .ref (aMo 5), .ref (aMo 6), .ref (aMo 7), .ref (aMo 8), .ref (aMo 9), .ref (aMo 10), .ref (aMo 11), .ref (aMo 12), .ref (aMo 13), .ref (aMo 14), .ref (aMo 15), .ref (aMo 16), .int (zI mo_size_3), .int (zI mo_runs_3), .ref (aMo 19), .ref (aMo 20), .ref (aMo 21), .int (zI mo_found_12), .int (zI mo_counted_12), .int (zI mo_isParted_12), .ref (aMo 25), .ref (aMo 26), .ref (aMo 27), .ref (aMo 28), .ref (aMo 29), .int (zI mo_maybes_16), .int (zI mo_days_16), .int (zI mo_over2_16), .int (zI mo_longer_16), .ref (aMo 34)])), ((aMo 3), .inl (ca 0, 11, .inl (zA mo_rules))), ((aMo 14), .inl (ca 0, 20161, .inl (zA mo_driven_3))), ((aMo 15), .inl (ca 0, 60, .inl (zA mo_runFrom_3))), ((aMo 16), .inl (ca 0, 60, .inl (zA mo_runTo_3))), ((aMo 25), .inl (ca 0, 12, .inl (zA mo_maybe_16))), ((aMo 26), .inl (ca 0, 62, .inl (zA mo_dayFrom_16))), ((aMo 27), .inl (ca 0, 62, .inl (zA mo_dayTo_16))), ((aMo 28), .inl (ca 0, 62, .inl (zA mo_dayRun_16))), ((aMo 29), .inl (ca 3, 62, .inl (zA mo_isLonger_16)))]) (st' := []) (kX11_chooses l D ca aMo mo_taped mo_rules mo_driven_3 mo_runFrom_3 mo_runTo_3 mo_size_3 mo_runs_3 mo_found_12 mo_counted_12 mo_isParted_12 mo_maybe mo_dayFrom mo_dayTo mo_dayRun mo_isLonger mo_maybes mo_days mo_over2 mo_longer mo_maybe_16 mo_dayFrom_16 mo_dayTo_16 mo_dayRun_16 mo_isLonger_16 mo_maybes_16 mo_days_16 mo_over2_16 mo_longer_16 hc_16) wml_RX11_205 wim_X11_chooses wse_X11_chooses win_RX11 wco_X11_chooses (nA := 0) rfl (by decide +kernel)  ⟨(Nat.le_of_ble_eq_true rfl), (Nat.le_of_ble_eq_true rfl)⟩ (Nat.le_refl _) (Nat.le_refl _) rfl (by decide) dX11_breaksLaw_16 9 11 rfl rfl rfl [9, 10, 8, 12, 13, 0, 1, 2, 3, 4] [5, 6, 7, 11, 14, 15, 16] rfl rfl rfl (by decide) (by decide) (by decide) rfl rfl (fun _ => rfl) rfl (fun _ => ?_)
  refine g_iconst (pc := 19) C dX11_breaksLaw_19 ?_
  refine g_istore_n (pc := 20) C (lv' := [(3, .int (zI 0)), (0, .ref (aMo 0)), (1, .int (zI v1)), (2, .int (zI v2))]) dX11_breaksLaw_20 rfl (Nat.le_of_ble_eq_true rfl) rfl ?_
  refine g_sub [7, 8, 0, 1, 2, 3, 9, 10, 11, 4, 5, 6, 12, 13, 14, 15, 16] [1, 0] (by decide) rfl rfl rfl ?_
  exact H21 _ _ _ _ _ _ _ _ _ _ _ _ _ _ _ _ _ _ _ _ _ _ _ hf
set_option maxRecDepth 100000 in
theorem kX11_breach (l : Launch) (D : va_G) (ca : Nat → ClassId) (aMo : Nat → Nat) (mo_taped : Int) (mo_rules : Nat → Int) (mo_acts : Nat → Int) (mo_kindOf : Nat → Int) (mo_lengthOf : Nat → Int) (mo_laid : Nat → Int) (mo_driven : Nat → Int) (mo_runFrom : Nat → Int) (mo_runTo : Nat → Int) (mo_size : Int) (mo_runs : Int) (mo_foundAt : Nat → Int) (mo_foundRule : Nat → Int) (mo_foundMany : Nat → Int) (mo_found : Int) (mo_counted : Int) (mo_isParted : Int) (mo_maybe : Nat → Int) (mo_dayFrom : Nat → Int) (mo_dayTo : Nat → Int) (mo_dayRun : Nat → Int) (mo_isLonger : Nat → Int) (mo_maybes : Int) (mo_days : Int) (mo_over2 : Int) (mo_longer : Int) (v1 : Int) (v2 : Int) (v3 : Int) (v4 : Int) (r_o : Int) (mo_laid_o : Nat → Int) (mo_driven_o : Nat → Int) (mo_runFrom_o : Nat → Int) (mo_runTo_o : Nat → Int) (mo_size_o : Int) (mo_runs_o : Int) (mo_foundAt_o : Nat → Int) (mo_foundRule_o : Nat → Int) (mo_foundMany_o : Nat → Int) (mo_found_o : Int) (mo_counted_o : Int) (mo_isParted_o : Int) (mo_maybe_o : Nat → Int) (mo_dayFrom_o : Nat → Int) (mo_dayTo_o : Nat → Int) (mo_dayRun_o : Nat → Int) (mo_isLonger_o : Nat → Int) (mo_maybes_o : Int) (mo_days_o : Int) (mo_over2_o : Int) (mo_longer_o : Int)
    (hf : fX11_breach v1 v2 v3 v4 mo_rules mo_acts mo_kindOf mo_lengthOf mo_laid mo_driven mo_runFrom mo_runTo mo_size mo_runs mo_foundAt mo_foundRule mo_foundMany mo_found mo_counted mo_isParted mo_maybe mo_dayFrom mo_dayTo mo_dayRun mo_isLonger mo_maybes mo_days mo_over2 mo_longer = some (r_o, mo_laid_o, mo_driven_o, mo_runFrom_o, mo_runTo_o, mo_size_o, mo_runs_o, mo_foundAt_o, mo_foundRule_o, mo_foundMany_o, mo_found_o, mo_counted_o, mo_isParted_o, mo_maybe_o, mo_dayFrom_o, mo_dayTo_o, mo_dayRun_o, mo_isLonger_o, mo_maybes_o, mo_days_o, mo_over2_o, mo_longer_o)) : Zc l D ca yX11_breach cX11_breach 5 (some .int) { frames := 6, cells := 0, slots := 0, locals := 144 } [.ref (aMo 0), .int (zI v1), .int (zI v2), .int (zI v3), .int (zI v4)] [((aMo 0), .inr (11, [.ref (aMo 1), .int (zI mo_taped), .ref (aMo 3), .ref (aMo 4), .ref (aMo 5), .ref (aMo 6), .ref (aMo 7), .ref (aMo 8), .ref (aMo 9), .ref (aMo 10), .ref (aMo 11), .ref (aMo 12), .ref (aMo 13), .ref (aMo 14), .ref (aMo 15), .ref (aMo 16), .int (zI mo_size), .int (zI mo_runs), .ref (aMo 19), .ref (aMo 20), .ref (aMo 21), .int (zI mo_found), .int (zI mo_counted), .int (zI mo_isParted), .ref (aMo 25), .ref (aMo 26), .ref (aMo 27), .ref (aMo 28), .ref (aMo 29), .int (zI mo_maybes), .int (zI mo_days), .int (zI mo_over2), .int (zI mo_longer), .ref (aMo 34)])), ((aMo 3), .inl (ca 0, 11, .inl (zA mo_rules))), ((aMo 5), .inl (ca 0, 4, .inl (zA mo_acts))), ((aMo 7), .inl (ca 0, 240, .inl (zA mo_kindOf))), ((aMo 8), .inl (ca 0, 240, .inl (zA mo_lengthOf))), ((aMo 13), .inl (ca 0, 20160, .inl (zA mo_laid))), ((aMo 14), .inl (ca 0, 20161, .inl (zA mo_driven))), ((aMo 15), .inl (ca 0, 60, .inl (zA mo_runFrom))), ((aMo 16), .inl (ca 0, 60, .inl (zA mo_runTo))), ((aMo 19), .inl (ca 0, 400, .inl (zA mo_foundAt))), ((aMo 20), .inl (ca 0, 400, .inl (zA mo_foundRule))), ((aMo 21), .inl (ca 0, 400, .inl (zA mo_foundMany))), ((aMo 25), .inl (ca 0, 12, .inl (zA mo_maybe))), ((aMo 26), .inl (ca 0, 62, .inl (zA mo_dayFrom))), ((aMo 27), .inl (ca 0, 62, .inl (zA mo_dayTo))), ((aMo 28), .inl (ca 0, 62, .inl (zA mo_dayRun))), ((aMo 29), .inl (ca 3, 62, .inl (zA mo_isLonger)))] (some (.int (zI r_o))) (fun _ => [((aMo 0), .inr (11, [.ref (aMo 1), .int (zI mo_taped), .ref (aMo 3), .ref (aMo 4), .ref (aMo 5), .ref (aMo 6), .ref (aMo 7), .ref (aMo 8), .ref (aMo 9), .ref (aMo 10), .ref (aMo 11), .ref (aMo 12), .ref (aMo 13), .ref (aMo 14), .ref (aMo 15), .ref (aMo 16), .int (zI mo_size_o), .int (zI mo_runs_o), .ref (aMo 19), .ref (aMo 20), .ref (aMo 21), .int (zI mo_found_o), .int (zI mo_counted_o), .int (zI mo_isParted_o), .ref (aMo 25), .ref (aMo 26), .ref (aMo 27), .ref (aMo 28), .ref (aMo 29), .int (zI mo_maybes_o), .int (zI mo_days_o), .int (zI mo_over2_o), .int (zI mo_longer_o), .ref (aMo 34)])), ((aMo 3), .inl (ca 0, 11, .inl (zA mo_rules))), ((aMo 5), .inl (ca 0, 4, .inl (zA mo_acts))), ((aMo 7), .inl (ca 0, 240, .inl (zA mo_kindOf))), ((aMo 8), .inl (ca 0, 240, .inl (zA mo_lengthOf))), ((aMo 13), .inl (ca 0, 20160, .inl (zA mo_laid_o))), ((aMo 14), .inl (ca 0, 20161, .inl (zA mo_driven_o))), ((aMo 15), .inl (ca 0, 60, .inl (zA mo_runFrom_o))), ((aMo 16), .inl (ca 0, 60, .inl (zA mo_runTo_o))), ((aMo 19), .inl (ca 0, 400, .inl (zA mo_foundAt_o))), ((aMo 20), .inl (ca 0, 400, .inl (zA mo_foundRule_o))), ((aMo 21), .inl (ca 0, 400, .inl (zA mo_foundMany_o))), ((aMo 25), .inl (ca 0, 12, .inl (zA mo_maybe_o))), ((aMo 26), .inl (ca 0, 62, .inl (zA mo_dayFrom_o))), ((aMo 27), .inl (ca 0, 62, .inl (zA mo_dayTo_o))), ((aMo 28), .inl (ca 0, 62, .inl (zA mo_dayRun_o))), ((aMo 29), .inl (ca 3, 62, .inl (zA mo_isLonger_o)))]) := by
  refine ctr_of (lv := [(0, .ref (aMo 0)), (1, .int (zI v1)), (2, .int (zI v2)), (3, .int (zI v3)), (4, .int (zI v4))]) (by decide +kernel) (Nat.le_of_ble_eq_true rfl) rfl (fun Γ hl0 C E hnm => ?_)
  have H11 : ∀ (mo_laid : Nat → Int) (mo_driven : Nat → Int) (mo_runFrom : Nat → Int) (mo_runTo : Nat → Int) (mo_size : Int) (mo_runs : Int) (mo_foundAt : Nat → Int) (mo_foundRule : Nat → Int) (mo_foundMany : Nat → Int) (mo_found : Int) (mo_counted : Int) (mo_isParted : Int) (mo_maybe : Nat → Int) (mo_dayFrom : Nat → Int) (mo_dayTo : Nat → Int) (mo_dayRun : Nat → Int) (mo_isLonger : Nat → Int) (mo_maybes : Int) (mo_days : Int) (mo_over2 : Int) (mo_longer : Int), fX11_breach_11 mo_laid mo_driven mo_runFrom mo_runTo mo_size mo_runs mo_foundAt mo_foundRule mo_foundMany mo_found mo_counted mo_isParted mo_maybe mo_dayFrom mo_dayTo mo_dayRun mo_isLonger mo_maybes mo_days mo_over2 mo_longer = some (r_o, mo_laid_o, mo_driven_o, mo_runFrom_o, mo_runTo_o, mo_size_o, mo_runs_o, mo_foundAt_o, mo_foundRule_o, mo_foundMany_o, mo_found_o, mo_counted_o, mo_isParted_o, mo_maybe_o, mo_dayFrom_o, mo_dayTo_o, mo_dayRun_o, mo_isLonger_o, mo_maybes_o, mo_days_o, mo_over2_o, mo_longer_o) → Zd D Γ 0 0 [((aMo 0), .inr (11, [.ref (aMo 1), .int (zI mo_taped), .ref (aMo 3), .ref (aMo 4), .ref (aMo 5), .ref (aMo 6), .ref (aMo 7), .ref (aMo 8), .ref (aMo 9), .ref (aMo 10), .ref (aMo 11), .ref (aMo 12), .ref (aMo 13), .ref (aMo 14), .ref (aMo 15), .ref (aMo 16), .int (zI mo_size), .int (zI mo_runs), .ref (aMo 19), .ref (aMo 20), .ref (aMo 21), .int (zI mo_found), .int (zI mo_counted), .int (zI mo_isParted), .ref (aMo 25), .ref (aMo 26), .ref (aMo 27), .ref (aMo 28), .ref (aMo 29), .int (zI mo_maybes), .int (zI mo_days), .int (zI mo_over2), .int (zI mo_longer), .ref (aMo 34)])), ((aMo 3), .inl (ca 0, 11, .inl (zA mo_rules))), ((aMo 5), .inl (ca 0, 4, .inl (zA mo_acts))), ((aMo 7), .inl (ca 0, 240, .inl (zA mo_kindOf))), ((aMo 8), .inl (ca 0, 240, .inl (zA mo_lengthOf))), ((aMo 13), .inl (ca 0, 20160, .inl (zA mo_laid))), ((aMo 14), .inl (ca 0, 20161, .inl (zA mo_driven))), ((aMo 15), .inl (ca 0, 60, .inl (zA mo_runFrom))), ((aMo 16), .inl (ca 0, 60, .inl (zA mo_runTo))), ((aMo 19), .inl (ca 0, 400, .inl (zA mo_foundAt))), ((aMo 20), .inl (ca 0, 400, .inl (zA mo_foundRule))), ((aMo 21), .inl (ca 0, 400, .inl (zA mo_foundMany))), ((aMo 25), .inl (ca 0, 12, .inl (zA mo_maybe))), ((aMo 26), .inl (ca 0, 62, .inl (zA mo_dayFrom))), ((aMo 27), .inl (ca 0, 62, .inl (zA mo_dayTo))), ((aMo 28), .inl (ca 0, 62, .inl (zA mo_dayRun))), ((aMo 29), .inl (ca 3, 62, .inl (zA mo_isLonger)))] 11 [] [] := by
    intro mo_laid mo_driven mo_runFrom mo_runTo mo_size mo_runs mo_foundAt mo_foundRule mo_foundMany mo_found mo_counted mo_isParted mo_maybe mo_dayFrom mo_dayTo mo_dayRun mo_isLonger mo_maybes mo_days mo_over2 mo_longer hf
    unfold fX11_breach_11 at hf
    refine g_iconst (pc := 11) C dX11_breach_11 ?_
    cases hf
    exact g_iret (pc := 12) C E (fun _ => 0) [0, 1, 2, 3, 4, 5, 6, 7, 8, 9, 10, 11, 12, 13, 14, 15, 16] (by decide) rfl rfl (Nat.le_refl _) (Nat.le_refl _) dX11_breach_12
  unfold fX11_breach at hf
  refine g_iload_n (pc := 0) C 1 dX11_breach_0 rfl rfl ?_
  obtain ⟨r_1, hc_1, hf⟩ := Option.bind_eq_some_iff.mp hf
  refine g_callS (pc := 1) C hl0 (wr := [((aMo 0), .inr (11, [.ref (aMo 1), .int (zI mo_taped), .ref (aMo 3), .ref (aMo 4), .ref (aMo 5), .ref (aMo 6), .ref (aMo 7), .ref (aMo 8), .ref (aMo 9), .ref (aMo 10), .ref (aMo 11), .ref (aMo 12), .ref (aMo 13), .ref (aMo 14), .ref (aMo 15), .ref (aMo 16), .int (zI mo_size), .int (zI mo_runs), .ref (aMo 19), .ref (aMo 20), .ref (aMo 21), .int (zI mo_found), .int (zI mo_counted), .int (zI mo_isParted), .ref (aMo 25), .ref (aMo 26), .ref (aMo 27), .ref (aMo 28), .ref (aMo 29), .int (zI mo_maybes), .int (zI mo_days), .int (zI mo_over2), .int (zI mo_longer), .ref (aMo 34)])), ((aMo 3), .inl (ca 0, 11, .inl (zA mo_rules))), ((aMo 5), .inl (ca 0, 4, .inl (zA mo_acts))), ((aMo 7), .inl (ca 0, 240, .inl (zA mo_kindOf))), ((aMo 8), .inl (ca 0, 240, .inl (zA mo_lengthOf))), ((aMo 13), .inl (ca 0, 20160, .inl (zA mo_laid))), ((aMo 14), .inl (ca 0, 20161, .inl (zA mo_driven))), ((aMo 15), .inl (ca 0, 60, .inl (zA mo_runFrom))), ((aMo 16), .inl (ca 0, 60, .inl (zA mo_runTo))), ((aMo 19), .inl (ca 0, 400, .inl (zA mo_foundAt))), ((aMo 20), .inl (ca 0, 400, .inl (zA mo_foundRule))), ((aMo 21), .inl (ca 0, 400, .inl (zA mo_foundMany))), ((aMo 25), .inl (ca 0, 12, .inl (zA mo_maybe))), ((aMo 26), .inl (ca 0, 62, .inl (zA mo_dayFrom))), ((aMo 27), .inl (ca 0, 62, .inl (zA mo_dayTo))), ((aMo 28), .inl (ca 0, 62, .inl (zA mo_dayRun))), ((aMo 29), .inl (ca 3, 62, .inl (zA mo_isLonger)))]) (k' := 0) (n' := 0) (ws' := fun _ => [((aMo 0), .inr (11, [.ref (aMo 1), .int (zI mo_taped), .ref (aMo 3), .ref (aMo 4), .ref (aMo 5), .ref (aMo 6), .ref (aMo 7), .ref (aMo 8), .ref (aMo 9), .ref (aMo 10), .ref (aMo 11), .ref (aMo 12), .ref (aMo 13), .ref (aMo 14), .ref (aMo 15), .ref (aMo 16), .int (zI mo_size), .int (zI mo_runs), .ref (aMo 19), .ref (aMo 20), .ref (aMo 21), .int (zI mo_found), .int (zI mo_counted), .int (zI mo_isParted), .ref (aMo 25), .ref (aMo 26), .ref (aMo 27), .ref (aMo 28), .ref (aMo 29), .int (zI mo_maybes), .int (zI mo_days), .int (zI mo_over2), .int (zI mo_longer), .ref (aMo 34)])), ((aMo 3), .inl (ca 0, 11, .inl (zA mo_rules))), ((aMo 5), .inl (ca 0, 4, .inl (zA mo_acts))), ((aMo 7), .inl (ca 0, 240, .inl (zA mo_kindOf))), ((aMo 8), .inl (ca 0, 240, .inl (zA mo_lengthOf))), ((aMo 13), .inl (ca 0, 20160, .inl (zA mo_laid))), ((aMo 14), .inl (ca 0, 20161, .inl (zA mo_driven))), ((aMo 15), .inl (ca 0, 60, .inl (zA mo_runFrom))), ((aMo 16), .inl (ca 0, 60, .inl (zA mo_runTo))), ((aMo 19), .inl (ca 0, 400, .inl (zA mo_foundAt))), ((aMo 20), .inl (ca 0, 400, .inl (zA mo_foundRule))), ((aMo 21), .inl (ca 0, 400, .inl (zA mo_foundMany))), ((aMo 25), .inl (ca 0, 12, .inl (zA mo_maybe))), ((aMo 26), .inl (ca 0, 62, .inl (zA mo_dayFrom))), ((aMo 27), .inl (ca 0, 62, .inl (zA mo_dayTo))), ((aMo 28), .inl (ca 0, 62, .inl (zA mo_dayRun))), ((aMo 29), .inl (ca 3, 62, .inl (zA mo_isLonger)))]) (st' := [.int (zI r_1)]) (kX11_isCard l D ca v1 r_1 hc_1) wml_RX11_110 wst_X11_isCard win_RX11 wco_X11_isCard (nA := 1) rfl (by decide +kernel)  ⟨(Nat.le_of_ble_eq_true rfl), (Nat.le_of_ble_eq_true rfl)⟩ (Nat.le_refl _) (Nat.le_refl _) rfl (by decide) dX11_breach_1 [] [0, 1, 2, 3, 4, 5, 6, 7, 8, 9, 10, 11, 12, 13, 14, 15, 16] rfl rfl rfl (by decide) (by decide) (by decide) rfl rfl (fun _ => rfl) rfl (fun _ => ?_)
  refine g_if_eq (pc := 4) C (tgt := 11) dX11_breach_4 (by decide) hf (fun hf => ?_) (fun hf => ?_)
  · refine g_sub [0, 1, 2, 3, 4, 5, 6, 7, 8, 9, 10, 11, 12, 13, 14, 15, 16] [] (by decide) rfl rfl rfl ?_
    exact H11 _ _ _ _ _ _ _ _ _ _ _ _ _ _ _ _ _ _ _ _ _ hf
  · refine g_iload_n (pc := 7) C 3 dX11_breach_7 rfl rfl ?_
    refine g_if_ge (pc := 8) C (tgt := 13) dX11_breach_8 (by decide) hf (fun hf => ?_) (fun hf => ?_)
    · refine g_aload_n (pc := 13) C 0 dX11_breach_13 rfl rfl ?_
      refine g_iload_n (pc := 14) C 1 dX11_breach_14 rfl rfl ?_
      refine g_iload_n (pc := 15) C 2 dX11_breach_15 rfl rfl ?_
      obtain ⟨⟨mo_laid_16, mo_driven_16, mo_runFrom_16, mo_runTo_16, mo_size_16, mo_runs_16, mo_foundAt_16, mo_foundRule_16, mo_foundMany_16, mo_found_16, mo_counted_16, mo_isParted_16, mo_maybe_16, mo_dayFrom_16, mo_dayTo_16, mo_dayRun_16, mo_isLonger_16, mo_maybes_16, mo_days_16, mo_over2_16, mo_longer_16⟩, hc_16, hf⟩ := Option.bind_eq_some_iff.mp hf
      dsimp only at hf
      refine g_callV (pc := 16) C hl0 (wr := []) (k' := 0) (n' := 0) (ws' := fun _ => [((aMo 0), .inr (11, [.ref (aMo 1), .int (zI mo_taped), .ref (aMo 3), .ref (aMo 4), .ref (aMo 5), .ref (aMo 6), .ref (aMo 7), .ref (aMo 8), .ref (aMo 9), .ref (aMo 10), .ref (aMo 11), .ref (aMo 12), .ref (aMo 13), .ref (aMo 14), .ref (aMo 15), .ref (aMo 16), .int (zI mo_size_16), .int (zI mo_runs_16), .ref (aMo 19), .ref (aMo 20), .ref (aMo 21), .int (zI mo_found_16), .int (zI mo_counted_16), .int (zI mo_isParted_16), .ref (aMo 25), .ref (aMo 26), .ref (aMo 27), .ref (aMo 28), .ref (aMo 29), .int (zI mo_maybes_16), .int (zI mo_days_16), .int (zI mo_over2_16), .int (zI mo_longer_16), .ref (aMo 34)])), ((aMo 3), .inl (ca 0, 11, .inl (zA mo_rules))), ((aMo 5), .inl (ca 0, 4, .inl (zA mo_acts))), ((aMo 7), .inl (ca 0, 240, .inl (zA mo_kindOf))), ((aMo 8), .inl (ca 0, 240, .inl (zA mo_lengthOf))), ((aMo 13), .inl (ca 0, 20160, .inl (zA mo_laid_16))), ((aMo 14), .inl (ca 0, 20161, .inl (zA mo_driven_16))), ((aMo 15), .inl (ca 0, 60, .inl (zA mo_runFrom_16))), ((aMo 16), .inl (ca 0, 60, .inl (zA mo_runTo_16))), ((aMo 19), .inl (ca 0, 400, .inl (zA mo_foundAt_16))), ((aMo 20), .inl (ca 0, 400, .inl (zA mo_foundRule_16))), ((aMo 21), .inl (ca 0, 400, .inl (zA mo_foundMany_16))), ((aMo 25), .inl (ca 0, 12, .inl (zA mo_maybe_16))), ((aMo 26), .inl (ca 0, 62, .inl (zA mo_dayFrom_16))), ((aMo 27), .inl (ca 0, 62, .inl (zA mo_dayTo_16))), ((aMo 28), .inl (ca 0, 62, .inl (zA mo_dayRun_16))), ((aMo 29), .inl (ca 3, 62, .inl (zA mo_isLonger_16)))]) (st' := []) (kX11_breaksLaw l D ca aMo mo_taped mo_rules mo_acts mo_kindOf mo_lengthOf mo_laid mo_driven mo_runFrom mo_runTo mo_size mo_runs mo_foundAt mo_foundRule mo_foundMany mo_found mo_counted mo_isParted mo_maybe mo_dayFrom mo_dayTo mo_dayRun mo_isLonger mo_maybes mo_days mo_over2 mo_longer v1 v2 mo_laid_16 mo_driven_16 mo_runFrom_16 mo_runTo_16 mo_size_16 mo_runs_16 mo_foundAt_16 mo_foundRule_16 mo_foundMany_16 mo_found_16 mo_counted_16 mo_isParted_16 mo_maybe_16 mo_dayFrom_16 mo_dayTo_16 mo_dayRun_16 mo_isLonger_16 mo_maybes_16 mo_days_16 mo_over2_16 mo_longer_16 hc_16) wml_RX11_211 wim_X11_breaksLaw wse_X11_breaksLaw win_RX11 wco_X11_breaksLaw (nA := 2) rfl (by decide +kernel)  ⟨(Nat.le_of_ble_eq_true rfl), (Nat.le_of_ble_eq_true rfl)⟩ (Nat.le_refl _) (Nat.le_refl _) rfl (by decide) dX11_breach_16 0 11 rfl rfl rfl [0, 1, 2, 3, 4, 5, 6, 7, 8, 9, 10, 11, 12, 13, 14, 15, 16] [] rfl rfl rfl (by decide) (by decide) (by decide) rfl rfl (fun _ => rfl) rfl (fun _ => ?_)
      refine g_iload_n (pc := 19) C 3 dX11_breach_19 rfl rfl ?_
      refine g_aload_n (pc := 20) C 0 dX11_breach_20 rfl rfl ?_
      refine g_get (pc := 21) C zf_X11_131 0 rfl rfl dX11_breach_21 ?_
      refine g_icmp_lt (pc := 24) C (tgt := 29) dX11_breach_24 (by decide) hf (fun hf => ?_) (fun hf => ?_)
      · refine g_iload (pc := 29) C 4 dX11_breach_29 rfl ?_
        refine g_if_ne (pc := 31) C (tgt := 43) dX11_breach_31 (by decide) hf (fun hf => ?_) (fun hf => ?_)
        · refine g_iload (pc := 43) C 4 dX11_breach_43 rfl ?_
          refine g_iconst (pc := 45) C dX11_breach_45 ?_
          refine g_icmp_ner (pc := 46) C (tgt := 58) dX11_breach_46 (by decide) (by decide) hf (fun hf => ?_) (fun hf => ?_)
          · refine g_iload (pc := 58) C 4 dX11_breach_58 rfl ?_
            refine g_iconst (pc := 60) C dX11_breach_60 ?_
            refine g_icmp_ner (pc := 61) C (tgt := 73) dX11_breach_61 (by decide) (by decide) hf (fun hf => ?_) (fun hf => ?_)
            · refine g_iconst (pc := 73) C dX11_breach_73 ?_
              cases hf
              exact g_iret (pc := 74) C E (fun _ => 0) [0, 1, 2, 3, 4, 5, 6, 7, 8, 9, 10, 11, 12, 13, 14, 15, 16] (by decide) rfl rfl (Nat.le_refl _) (Nat.le_refl _) dX11_breach_74
            · refine g_aload_n (pc := 64) C 0 dX11_breach_64 rfl rfl ?_
              refine g_get (pc := 65) C zf_X11_62 0 rfl rfl dX11_breach_65 ?_
              refine g_iload_n (pc := 68) C 3 dX11_breach_68 rfl rfl ?_
              refine g_iald (pc := 69) C (N := 400) 11 rfl rfl (Nat.le_of_ble_eq_true rfl) dX11_breach_69 hf (fun hf => ?_)
              refine g_goto (pc := 70) C (tgt := 74) dX11_breach_70 (by decide) ?_
              cases hf
              exact g_iret (pc := 74) C E (fun _ => 0) [0, 1, 2, 3, 4, 5, 6, 7, 8, 9, 10, 11, 12, 13, 14, 15, 16] (by decide) rfl rfl (Nat.le_refl _) (Nat.le_refl _) dX11_breach_74
          · refine g_aload_n (pc := 49) C 0 dX11_breach_49 rfl rfl ?_
            refine g_get (pc := 50) C zf_X11_59 0 rfl rfl dX11_breach_50 ?_
            refine g_iload_n (pc := 53) C 3 dX11_breach_53 rfl rfl ?_
            refine g_iald (pc := 54) C (N := 400) 10 rfl rfl (Nat.le_of_ble_eq_true rfl) dX11_breach_54 hf (fun hf => ?_)
            refine g_goto (pc := 55) C (tgt := 74) dX11_breach_55 (by decide) ?_
            cases hf
            exact g_iret (pc := 74) C E (fun _ => 0) [0, 1, 2, 3, 4, 5, 6, 7, 8, 9, 10, 11, 12, 13, 14, 15, 16] (by decide) rfl rfl (Nat.le_refl _) (Nat.le_refl _) dX11_breach_74
        · refine g_aload_n (pc := 34) C 0 dX11_breach_34 rfl rfl ?_
          refine g_get (pc := 35) C zf_X11_56 0 rfl rfl dX11_breach_35 ?_
          refine g_iload_n (pc := 38) C 3 dX11_breach_38 rfl rfl ?_
          refine g_iald (pc := 39) C (N := 400) 9 rfl rfl (Nat.le_of_ble_eq_true rfl) dX11_breach_39 hf (fun hf => ?_)
          refine g_goto (pc := 40) C (tgt := 74) dX11_breach_40 (by decide) ?_
          cases hf
          exact g_iret (pc := 74) C E (fun _ => 0) [0, 1, 2, 3, 4, 5, 6, 7, 8, 9, 10, 11, 12, 13, 14, 15, 16] (by decide) rfl rfl (Nat.le_refl _) (Nat.le_refl _) dX11_breach_74
      · refine g_iconst (pc := 27) C dX11_breach_27 ?_
        cases hf
        exact g_iret (pc := 28) C E (fun _ => 0) [0, 1, 2, 3, 4, 5, 6, 7, 8, 9, 10, 11, 12, 13, 14, 15, 16] (by decide) rfl rfl (Nat.le_refl _) (Nat.le_refl _) dX11_breach_28
    · refine g_sub [0, 1, 2, 3, 4, 5, 6, 7, 8, 9, 10, 11, 12, 13, 14, 15, 16] [] (by decide) rfl rfl rfl ?_
      exact H11 _ _ _ _ _ _ _ _ _ _ _ _ _ _ _ _ _ _ _ _ _ hf
set_option maxRecDepth 100000 in
theorem kX11_breaches (l : Launch) (D : va_G) (ca : Nat → ClassId) (aMo : Nat → Nat) (mo_taped : Int) (mo_rules : Nat → Int) (mo_acts : Nat → Int) (mo_kindOf : Nat → Int) (mo_lengthOf : Nat → Int) (mo_laid : Nat → Int) (mo_driven : Nat → Int) (mo_runFrom : Nat → Int) (mo_runTo : Nat → Int) (mo_size : Int) (mo_runs : Int) (mo_foundAt : Nat → Int) (mo_foundRule : Nat → Int) (mo_foundMany : Nat → Int) (mo_found : Int) (mo_counted : Int) (mo_isParted : Int) (mo_maybe : Nat → Int) (mo_dayFrom : Nat → Int) (mo_dayTo : Nat → Int) (mo_dayRun : Nat → Int) (mo_isLonger : Nat → Int) (mo_maybes : Int) (mo_days : Int) (mo_over2 : Int) (mo_longer : Int) (v1 : Int) (v2 : Int) (r_o : Int) (mo_laid_o : Nat → Int) (mo_driven_o : Nat → Int) (mo_runFrom_o : Nat → Int) (mo_runTo_o : Nat → Int) (mo_size_o : Int) (mo_runs_o : Int) (mo_foundAt_o : Nat → Int) (mo_foundRule_o : Nat → Int) (mo_foundMany_o : Nat → Int) (mo_found_o : Int) (mo_counted_o : Int) (mo_isParted_o : Int) (mo_maybe_o : Nat → Int) (mo_dayFrom_o : Nat → Int) (mo_dayTo_o : Nat → Int) (mo_dayRun_o : Nat → Int) (mo_isLonger_o : Nat → Int) (mo_maybes_o : Int) (mo_days_o : Int) (mo_over2_o : Int) (mo_longer_o : Int)
    (hf : fX11_breaches v1 v2 mo_rules mo_acts mo_kindOf mo_lengthOf mo_laid mo_driven mo_runFrom mo_runTo mo_size mo_runs mo_foundAt mo_foundRule mo_foundMany mo_found mo_counted mo_isParted mo_maybe mo_dayFrom mo_dayTo mo_dayRun mo_isLonger mo_maybes mo_days mo_over2 mo_longer = some (r_o, mo_laid_o, mo_driven_o, mo_runFrom_o, mo_runTo_o, mo_size_o, mo_runs_o, mo_foundAt_o, mo_foundRule_o, mo_foundMany_o, mo_found_o, mo_counted_o, mo_isParted_o, mo_maybe_o, mo_dayFrom_o, mo_dayTo_o, mo_dayRun_o, mo_isLonger_o, mo_maybes_o, mo_days_o, mo_over2_o, mo_longer_o)) : Zc l D ca yX11_breaches cX11_breaches 3 (some .int) { frames := 6, cells := 0, slots := 0, locals := 144 } [.ref (aMo 0), .int (zI v1), .int (zI v2)] [((aMo 0), .inr (11, [.ref (aMo 1), .int (zI mo_taped), .ref (aMo 3), .ref (aMo 4), .ref (aMo 5), .ref (aMo 6), .ref (aMo 7), .ref (aMo 8), .ref (aMo 9), .ref (aMo 10), .ref (aMo 11), .ref (aMo 12), .ref (aMo 13), .ref (aMo 14), .ref (aMo 15), .ref (aMo 16), .int (zI mo_size), .int (zI mo_runs), .ref (aMo 19), .ref (aMo 20), .ref (aMo 21), .int (zI mo_found), .int (zI mo_counted), .int (zI mo_isParted), .ref (aMo 25), .ref (aMo 26), .ref (aMo 27), .ref (aMo 28), .ref (aMo 29), .int (zI mo_maybes), .int (zI mo_days), .int (zI mo_over2), .int (zI mo_longer), .ref (aMo 34)])), ((aMo 3), .inl (ca 0, 11, .inl (zA mo_rules))), ((aMo 5), .inl (ca 0, 4, .inl (zA mo_acts))), ((aMo 7), .inl (ca 0, 240, .inl (zA mo_kindOf))), ((aMo 8), .inl (ca 0, 240, .inl (zA mo_lengthOf))), ((aMo 13), .inl (ca 0, 20160, .inl (zA mo_laid))), ((aMo 14), .inl (ca 0, 20161, .inl (zA mo_driven))), ((aMo 15), .inl (ca 0, 60, .inl (zA mo_runFrom))), ((aMo 16), .inl (ca 0, 60, .inl (zA mo_runTo))), ((aMo 19), .inl (ca 0, 400, .inl (zA mo_foundAt))), ((aMo 20), .inl (ca 0, 400, .inl (zA mo_foundRule))), ((aMo 21), .inl (ca 0, 400, .inl (zA mo_foundMany))), ((aMo 25), .inl (ca 0, 12, .inl (zA mo_maybe))), ((aMo 26), .inl (ca 0, 62, .inl (zA mo_dayFrom))), ((aMo 27), .inl (ca 0, 62, .inl (zA mo_dayTo))), ((aMo 28), .inl (ca 0, 62, .inl (zA mo_dayRun))), ((aMo 29), .inl (ca 3, 62, .inl (zA mo_isLonger)))] (some (.int (zI r_o))) (fun _ => [((aMo 0), .inr (11, [.ref (aMo 1), .int (zI mo_taped), .ref (aMo 3), .ref (aMo 4), .ref (aMo 5), .ref (aMo 6), .ref (aMo 7), .ref (aMo 8), .ref (aMo 9), .ref (aMo 10), .ref (aMo 11), .ref (aMo 12), .ref (aMo 13), .ref (aMo 14), .ref (aMo 15), .ref (aMo 16), .int (zI mo_size_o), .int (zI mo_runs_o), .ref (aMo 19), .ref (aMo 20), .ref (aMo 21), .int (zI mo_found_o), .int (zI mo_counted_o), .int (zI mo_isParted_o), .ref (aMo 25), .ref (aMo 26), .ref (aMo 27), .ref (aMo 28), .ref (aMo 29), .int (zI mo_maybes_o), .int (zI mo_days_o), .int (zI mo_over2_o), .int (zI mo_longer_o), .ref (aMo 34)])), ((aMo 3), .inl (ca 0, 11, .inl (zA mo_rules))), ((aMo 5), .inl (ca 0, 4, .inl (zA mo_acts))), ((aMo 7), .inl (ca 0, 240, .inl (zA mo_kindOf))), ((aMo 8), .inl (ca 0, 240, .inl (zA mo_lengthOf))), ((aMo 13), .inl (ca 0, 20160, .inl (zA mo_laid_o))), ((aMo 14), .inl (ca 0, 20161, .inl (zA mo_driven_o))), ((aMo 15), .inl (ca 0, 60, .inl (zA mo_runFrom_o))), ((aMo 16), .inl (ca 0, 60, .inl (zA mo_runTo_o))), ((aMo 19), .inl (ca 0, 400, .inl (zA mo_foundAt_o))), ((aMo 20), .inl (ca 0, 400, .inl (zA mo_foundRule_o))), ((aMo 21), .inl (ca 0, 400, .inl (zA mo_foundMany_o))), ((aMo 25), .inl (ca 0, 12, .inl (zA mo_maybe_o))), ((aMo 26), .inl (ca 0, 62, .inl (zA mo_dayFrom_o))), ((aMo 27), .inl (ca 0, 62, .inl (zA mo_dayTo_o))), ((aMo 28), .inl (ca 0, 62, .inl (zA mo_dayRun_o))), ((aMo 29), .inl (ca 3, 62, .inl (zA mo_isLonger_o)))]) := by
  refine ctr_of (lv := [(0, .ref (aMo 0)), (1, .int (zI v1)), (2, .int (zI v2))]) (by decide +kernel) (Nat.le_of_ble_eq_true rfl) rfl (fun Γ hl0 C E hnm => ?_)
  unfold fX11_breaches at hf
  refine g_iload_n (pc := 0) C 1 dX11_breaches_0 rfl rfl ?_
  obtain ⟨r_1, hc_1, hf⟩ := Option.bind_eq_some_iff.mp hf
  refine g_callS (pc := 1) C hl0 (wr := [((aMo 0), .inr (11, [.ref (aMo 1), .int (zI mo_taped), .ref (aMo 3), .ref (aMo 4), .ref (aMo 5), .ref (aMo 6), .ref (aMo 7), .ref (aMo 8), .ref (aMo 9), .ref (aMo 10), .ref (aMo 11), .ref (aMo 12), .ref (aMo 13), .ref (aMo 14), .ref (aMo 15), .ref (aMo 16), .int (zI mo_size), .int (zI mo_runs), .ref (aMo 19), .ref (aMo 20), .ref (aMo 21), .int (zI mo_found), .int (zI mo_counted), .int (zI mo_isParted), .ref (aMo 25), .ref (aMo 26), .ref (aMo 27), .ref (aMo 28), .ref (aMo 29), .int (zI mo_maybes), .int (zI mo_days), .int (zI mo_over2), .int (zI mo_longer), .ref (aMo 34)])), ((aMo 3), .inl (ca 0, 11, .inl (zA mo_rules))), ((aMo 5), .inl (ca 0, 4, .inl (zA mo_acts))), ((aMo 7), .inl (ca 0, 240, .inl (zA mo_kindOf))), ((aMo 8), .inl (ca 0, 240, .inl (zA mo_lengthOf))), ((aMo 13), .inl (ca 0, 20160, .inl (zA mo_laid))), ((aMo 14), .inl (ca 0, 20161, .inl (zA mo_driven))), ((aMo 15), .inl (ca 0, 60, .inl (zA mo_runFrom))), ((aMo 16), .inl (ca 0, 60, .inl (zA mo_runTo))), ((aMo 19), .inl (ca 0, 400, .inl (zA mo_foundAt))), ((aMo 20), .inl (ca 0, 400, .inl (zA mo_foundRule))), ((aMo 21), .inl (ca 0, 400, .inl (zA mo_foundMany))), ((aMo 25), .inl (ca 0, 12, .inl (zA mo_maybe))), ((aMo 26), .inl (ca 0, 62, .inl (zA mo_dayFrom))), ((aMo 27), .inl (ca 0, 62, .inl (zA mo_dayTo))), ((aMo 28), .inl (ca 0, 62, .inl (zA mo_dayRun))), ((aMo 29), .inl (ca 3, 62, .inl (zA mo_isLonger)))]) (k' := 0) (n' := 0) (ws' := fun _ => [((aMo 0), .inr (11, [.ref (aMo 1), .int (zI mo_taped), .ref (aMo 3), .ref (aMo 4), .ref (aMo 5), .ref (aMo 6), .ref (aMo 7), .ref (aMo 8), .ref (aMo 9), .ref (aMo 10), .ref (aMo 11), .ref (aMo 12), .ref (aMo 13), .ref (aMo 14), .ref (aMo 15), .ref (aMo 16), .int (zI mo_size), .int (zI mo_runs), .ref (aMo 19), .ref (aMo 20), .ref (aMo 21), .int (zI mo_found), .int (zI mo_counted), .int (zI mo_isParted), .ref (aMo 25), .ref (aMo 26), .ref (aMo 27), .ref (aMo 28), .ref (aMo 29), .int (zI mo_maybes), .int (zI mo_days), .int (zI mo_over2), .int (zI mo_longer), .ref (aMo 34)])), ((aMo 3), .inl (ca 0, 11, .inl (zA mo_rules))), ((aMo 5), .inl (ca 0, 4, .inl (zA mo_acts))), ((aMo 7), .inl (ca 0, 240, .inl (zA mo_kindOf))), ((aMo 8), .inl (ca 0, 240, .inl (zA mo_lengthOf))), ((aMo 13), .inl (ca 0, 20160, .inl (zA mo_laid))), ((aMo 14), .inl (ca 0, 20161, .inl (zA mo_driven))), ((aMo 15), .inl (ca 0, 60, .inl (zA mo_runFrom))), ((aMo 16), .inl (ca 0, 60, .inl (zA mo_runTo))), ((aMo 19), .inl (ca 0, 400, .inl (zA mo_foundAt))), ((aMo 20), .inl (ca 0, 400, .inl (zA mo_foundRule))), ((aMo 21), .inl (ca 0, 400, .inl (zA mo_foundMany))), ((aMo 25), .inl (ca 0, 12, .inl (zA mo_maybe))), ((aMo 26), .inl (ca 0, 62, .inl (zA mo_dayFrom))), ((aMo 27), .inl (ca 0, 62, .inl (zA mo_dayTo))), ((aMo 28), .inl (ca 0, 62, .inl (zA mo_dayRun))), ((aMo 29), .inl (ca 3, 62, .inl (zA mo_isLonger)))]) (st' := [.int (zI r_1)]) (kX11_isCard l D ca v1 r_1 hc_1) wml_RX11_110 wst_X11_isCard win_RX11 wco_X11_isCard (nA := 1) rfl (by decide +kernel)  ⟨(Nat.le_of_ble_eq_true rfl), (Nat.le_of_ble_eq_true rfl)⟩ (Nat.le_refl _) (Nat.le_refl _) rfl (by decide) dX11_breaches_1 [] [0, 1, 2, 3, 4, 5, 6, 7, 8, 9, 10, 11, 12, 13, 14, 15, 16] rfl rfl rfl (by decide) (by decide) (by decide) rfl rfl (fun _ => rfl) rfl (fun _ => ?_)
  refine g_if_ne (pc := 4) C (tgt := 9) dX11_breaches_4 (by decide) hf (fun hf => ?_) (fun hf => ?_)
  · refine g_aload_n (pc := 9) C 0 dX11_breaches_9 rfl rfl ?_
    refine g_iload_n (pc := 10) C 1 dX11_breaches_10 rfl rfl ?_
    refine g_iload_n (pc := 11) C 2 dX11_breaches_11 rfl rfl ?_
    obtain ⟨⟨mo_laid_12, mo_driven_12, mo_runFrom_12, mo_runTo_12, mo_size_12, mo_runs_12, mo_foundAt_12, mo_foundRule_12, mo_foundMany_12, mo_found_12, mo_counted_12, mo_isParted_12, mo_maybe_12, mo_dayFrom_12, mo_dayTo_12, mo_dayRun_12, mo_isLonger_12, mo_maybes_12, mo_days_12, mo_over2_12, mo_longer_12⟩, hc_12, hf⟩ := Option.bind_eq_some_iff.mp hf
    dsimp only at hf
    refine g_callV (pc := 12) C hl0 (wr := []) (k' := 0) (n' := 0) (ws' := fun _ => [((aMo 0), .inr (11, [.ref (aMo 1), .int (zI mo_taped), .ref (aMo 3), .ref (aMo 4), .ref (aMo 5), .ref (aMo 6), .ref (aMo 7), .ref (aMo 8), .ref (aMo 9), .ref (aMo 10), .ref (aMo 11), .ref (aMo 12), .ref (aMo 13), .ref (aMo 14), .ref (aMo 15), .ref (aMo 16), .int (zI mo_size_12), .int (zI mo_runs_12), .ref (aMo 19), .ref (aMo 20), .ref (aMo 21), .int (zI mo_found_12), .int (zI mo_counted_12), .int (zI mo_isParted_12), .ref (aMo 25), .ref (aMo 26), .ref (aMo 27), .ref (aMo 28), .ref (aMo 29), .int (zI mo_maybes_12), .int (zI mo_days_12), .int (zI mo_over2_12), .int (zI mo_longer_12), .ref (aMo 34)])), ((aMo 3), .inl (ca 0, 11, .inl (zA mo_rules))), ((aMo 5), .inl (ca 0, 4, .inl (zA mo_acts))), ((aMo 7), .inl (ca 0, 240, .inl (zA mo_kindOf))), ((aMo 8), .inl (ca 0, 240, .inl (zA mo_lengthOf))), ((aMo 13), .inl (ca 0, 20160, .inl (zA mo_laid_12))), ((aMo 14), .inl (ca 0, 20161, .inl (zA mo_driven_12))), ((aMo 15), .inl (ca 0, 60, .inl (zA mo_runFrom_12))), ((aMo 16), .inl (ca 0, 60, .inl (zA mo_runTo_12))), ((aMo 19), .inl (ca 0, 400, .inl (zA mo_foundAt_12))), ((aMo 20), .inl (ca 0, 400, .inl (zA mo_foundRule_12))), ((aMo 21), .inl (ca 0, 400, .inl (zA mo_foundMany_12))), ((aMo 25), .inl (ca 0, 12, .inl (zA mo_maybe_12))), ((aMo 26), .inl (ca 0, 62, .inl (zA mo_dayFrom_12))), ((aMo 27), .inl (ca 0, 62, .inl (zA mo_dayTo_12))), ((aMo 28), .inl (ca 0, 62, .inl (zA mo_dayRun_12))), ((aMo 29), .inl (ca 3, 62, .inl (zA mo_isLonger_12)))]) (st' := []) (kX11_breaksLaw l D ca aMo mo_taped mo_rules mo_acts mo_kindOf mo_lengthOf mo_laid mo_driven mo_runFrom mo_runTo mo_size mo_runs mo_foundAt mo_foundRule mo_foundMany mo_found mo_counted mo_isParted mo_maybe mo_dayFrom mo_dayTo mo_dayRun mo_isLonger mo_maybes mo_days mo_over2 mo_longer v1 v2 mo_laid_12 mo_driven_12 mo_runFrom_12 mo_runTo_12 mo_size_12 mo_runs_12 mo_foundAt_12 mo_foundRule_12 mo_foundMany_12 mo_found_12 mo_counted_12 mo_isParted_12 mo_maybe_12 mo_dayFrom_12 mo_dayTo_12 mo_dayRun_12 mo_isLonger_12 mo_maybes_12 mo_days_12 mo_over2_12 mo_longer_12 hc_12) wml_RX11_211 wim_X11_breaksLaw wse_X11_breaksLaw win_RX11 wco_X11_breaksLaw (nA := 2) rfl (by decide +kernel)  ⟨(Nat.le_of_ble_eq_true rfl), (Nat.le_of_ble_eq_true rfl)⟩ (Nat.le_refl _) (Nat.le_refl _) rfl (by decide) dX11_breaches_12 0 11 rfl rfl rfl [0, 1, 2, 3, 4, 5, 6, 7, 8, 9, 10, 11, 12, 13, 14, 15, 16] [] rfl rfl rfl (by decide) (by decide) (by decide) rfl rfl (fun _ => rfl) rfl (fun _ => ?_)
    refine g_aload_n (pc := 15) C 0 dX11_breaches_15 rfl rfl ?_
    refine g_get (pc := 16) C zf_X11_131 0 rfl rfl dX11_breaches_16 ?_
    cases hf
    exact g_iret (pc := 19) C E (fun _ => 0) [0, 1, 2, 3, 4, 5, 6, 7, 8, 9, 10, 11, 12, 13, 14, 15, 16] (by decide) rfl rfl (Nat.le_refl _) (Nat.le_refl _) dX11_breaches_19
  · refine g_iconst (pc := 7) C dX11_breaches_7 ?_
    cases hf
    exact g_iret (pc := 8) C E (fun _ => 0) [0, 1, 2, 3, 4, 5, 6, 7, 8, 9, 10, 11, 12, 13, 14, 15, 16] (by decide) rfl rfl (Nat.le_refl _) (Nat.le_refl _) dX11_breaches_8
set_option maxRecDepth 100000 in
theorem kX11_canBe (l : Launch) (D : va_G) (ca : Nat → ClassId)   (v0 : Int) (v1 : Int) (r_o : Int)
    (hf : fX11_canBe v0 v1 = some r_o) : Zc l D ca yX11_canBe cX11_canBe 2 (some .boolean) { frames := 0, cells := 0, slots := 0, locals := 0 } [.int (zI v0), .int (zI v1)] [] (some (.int (zI r_o))) (fun _ => []) := by
  refine ctr_of (lv := [(0, .int (zI v0)), (1, .int (zI v1))]) (by decide +kernel) (Nat.le_of_ble_eq_true rfl) rfl (fun Γ hl0 C E hnm => ?_)
  have H12 : fX11_canBe_12 v1 = some r_o → Zd D Γ 0 0 [] 12 [(1, .int (zI v1))] [] := by
    intro  hf
    unfold fX11_canBe_12 at hf
    refine g_iload_n (pc := 12) C 0 dX11_canBe_12 rfl rfl ?_
    refine g_bipush (pc := 13) C dX11_canBe_13 (by decide) ?_
    refine g_icmp_gtr (pc := 15) C (tgt := 22) dX11_canBe_15 (by decide) (by decide) hf (fun hf => ?_) (fun hf => ?_)
    · refine g_iconst (pc := 22) C dX11_canBe_22 ?_
      refine g_goto (pc := 23) C (tgt := 36) dX11_canBe_23 (by decide) ?_
      cases hf
      exact g_zret (pc := 36) C E (by decide) (fun _ => 0) [] (by decide) rfl rfl (Nat.le_refl _) (Nat.le_refl _) dX11_canBe_36
    · refine g_iconst (pc := 18) C dX11_canBe_18 ?_
      refine g_goto (pc := 19) C (tgt := 36) dX11_canBe_19 (by decide) ?_
      cases hf
      exact g_zret (pc := 36) C E (by decide) (fun _ => 0) [] (by decide) rfl rfl (Nat.le_refl _) (Nat.le_refl _) dX11_canBe_36
  unfold fX11_canBe at hf
  refine g_iload_n (pc := 0) C 0 dX11_canBe_0 rfl rfl ?_
  refine g_bipush (pc := 1) C dX11_canBe_1 (by decide) ?_
  refine g_icmp_eqr (pc := 3) C (tgt := 12) dX11_canBe_3 (by decide) (by decide) hf (fun hf => ?_) (fun hf => ?_)
  · refine g_sub [] [1] (by decide) rfl rfl rfl ?_
    exact H12  hf
  · refine g_iload_n (pc := 6) C 0 dX11_canBe_6 rfl rfl ?_
    refine g_bipush (pc := 7) C dX11_canBe_7 (by decide) ?_
    refine g_icmp_ner (pc := 9) C (tgt := 26) dX11_canBe_9 (by decide) (by decide) hf (fun hf => ?_) (fun hf => ?_)
    · refine g_iload_n (pc := 26) C 1 dX11_canBe_26 rfl rfl ?_
      refine g_iconst (pc := 27) C dX11_canBe_27 ?_
      refine g_icmp_ltr (pc := 28) C (tgt := 35) dX11_canBe_28 (by decide) (by decide) hf (fun hf => ?_) (fun hf => ?_)
      · refine g_iconst (pc := 35) C dX11_canBe_35 ?_
        cases hf
        exact g_zret (pc := 36) C E (by decide) (fun _ => 0) [] (by decide) rfl rfl (Nat.le_refl _) (Nat.le_refl _) dX11_canBe_36
      · refine g_iconst (pc := 31) C dX11_canBe_31 ?_
        refine g_goto (pc := 32) C (tgt := 36) dX11_canBe_32 (by decide) ?_
        cases hf
        exact g_zret (pc := 36) C E (by decide) (fun _ => 0) [] (by decide) rfl rfl (Nat.le_refl _) (Nat.le_refl _) dX11_canBe_36
    · refine g_sub [] [1] (by decide) rfl rfl rfl ?_
      exact H12  hf
set_option maxRecDepth 100000 in
theorem kX11_count (l : Launch) (D : va_G) (ca : Nat → ClassId) (aMo : Nat → Nat) (mo_taped : Int) (mo_acts : Nat → Int) (mo_minutes : Nat → Int) (mo_kindOf : Nat → Int) (mo_lengthOf : Nat → Int) (mo_trips : Nat → Int) (mo_laid : Nat → Int) (mo_driven : Nat → Int) (mo_runFrom : Nat → Int) (mo_runTo : Nat → Int) (mo_size : Int) (mo_runs : Int) (mo_found : Int) (mo_counted : Int) (mo_isParted : Int) (mo_maybes : Int) (mo_days : Int) (mo_over2 : Int) (mo_longer : Int) (v1 : Int) (v2 : Int) (r_o : Int) (mo_laid_o : Nat → Int) (mo_driven_o : Nat → Int) (mo_runFrom_o : Nat → Int) (mo_runTo_o : Nat → Int) (mo_size_o : Int) (mo_runs_o : Int)
    (hf : fX11_count v1 v2 mo_taped mo_acts mo_minutes mo_kindOf mo_lengthOf mo_trips mo_laid mo_driven mo_runFrom mo_runTo mo_size mo_runs = some (r_o, mo_laid_o, mo_driven_o, mo_runFrom_o, mo_runTo_o, mo_size_o, mo_runs_o)) : Zc l D ca yX11_count cX11_count 5 (some .int) { frames := 3, cells := 0, slots := 0, locals := 72 } [.ref (aMo 0), .int (zI v1), .int (zI v2)] [((aMo 0), .inr (11, [.ref (aMo 1), .int (zI mo_taped), .ref (aMo 3), .ref (aMo 4), .ref (aMo 5), .ref (aMo 6), .ref (aMo 7), .ref (aMo 8), .ref (aMo 9), .ref (aMo 10), .ref (aMo 11), .ref (aMo 12), .ref (aMo 13), .ref (aMo 14), .ref (aMo 15), .ref (aMo 16), .int (zI mo_size), .int (zI mo_runs), .ref (aMo 19), .ref (aMo 20), .ref (aMo 21), .int (zI mo_found), .int (zI mo_counted), .int (zI mo_isParted), .ref (aMo 25), .ref (aMo 26), .ref (aMo 27), .ref (aMo 28), .ref (aMo 29), .int (zI mo_maybes), .int (zI mo_days), .int (zI mo_over2), .int (zI mo_longer), .ref (aMo 34)])), ((aMo 5), .inl (ca 0, 4, .inl (zA mo_acts))), ((aMo 6), .inl (ca 0, 4, .inl (zA mo_minutes))), ((aMo 7), .inl (ca 0, 240, .inl (zA mo_kindOf))), ((aMo 8), .inl (ca 0, 240, .inl (zA mo_lengthOf))), ((aMo 10), .inl (ca 0, 2, .inl (zA mo_trips))), ((aMo 13), .inl (ca 0, 20160, .inl (zA mo_laid))), ((aMo 14), .inl (ca 0, 20161, .inl (zA mo_driven))), ((aMo 15), .inl (ca 0, 60, .inl (zA mo_runFrom))), ((aMo 16), .inl (ca 0, 60, .inl (zA mo_runTo)))] (some (.int (zI r_o))) (fun _ => [((aMo 0), .inr (11, [.ref (aMo 1), .int (zI mo_taped), .ref (aMo 3), .ref (aMo 4), .ref (aMo 5), .ref (aMo 6), .ref (aMo 7), .ref (aMo 8), .ref (aMo 9), .ref (aMo 10), .ref (aMo 11), .ref (aMo 12), .ref (aMo 13), .ref (aMo 14), .ref (aMo 15), .ref (aMo 16), .int (zI mo_size_o), .int (zI mo_runs_o), .ref (aMo 19), .ref (aMo 20), .ref (aMo 21), .int (zI mo_found), .int (zI mo_counted), .int (zI mo_isParted), .ref (aMo 25), .ref (aMo 26), .ref (aMo 27), .ref (aMo 28), .ref (aMo 29), .int (zI mo_maybes), .int (zI mo_days), .int (zI mo_over2), .int (zI mo_longer), .ref (aMo 34)])), ((aMo 5), .inl (ca 0, 4, .inl (zA mo_acts))), ((aMo 6), .inl (ca 0, 4, .inl (zA mo_minutes))), ((aMo 7), .inl (ca 0, 240, .inl (zA mo_kindOf))), ((aMo 8), .inl (ca 0, 240, .inl (zA mo_lengthOf))), ((aMo 10), .inl (ca 0, 2, .inl (zA mo_trips))), ((aMo 13), .inl (ca 0, 20160, .inl (zA mo_laid_o))), ((aMo 14), .inl (ca 0, 20161, .inl (zA mo_driven_o))), ((aMo 15), .inl (ca 0, 60, .inl (zA mo_runFrom_o))), ((aMo 16), .inl (ca 0, 60, .inl (zA mo_runTo_o)))]) := by
  refine ctr_of (lv := [(0, .ref (aMo 0)), (1, .int (zI v1)), (2, .int (zI v2))]) (by decide +kernel) (Nat.le_of_ble_eq_true rfl) rfl (fun Γ hl0 C E hnm => ?_)
  have H66 : ∀ (mo_laid : Nat → Int) (mo_driven : Nat → Int) (mo_runFrom : Nat → Int) (mo_runTo : Nat → Int) (mo_size : Int) (mo_runs : Int) (n66 : Nat) (v3 : Int) (v4 : Int), zlp (fX11_count_66 v1 v2 mo_acts mo_minutes mo_laid mo_driven mo_runFrom mo_runTo mo_size mo_runs) n66 (v3, v4) = some (r_o, mo_laid_o, mo_driven_o, mo_runFrom_o, mo_runTo_o, mo_size_o, mo_runs_o) → Zd D Γ 0 0 [((aMo 0), .inr (11, [.ref (aMo 1), .int (zI mo_taped), .ref (aMo 3), .ref (aMo 4), .ref (aMo 5), .ref (aMo 6), .ref (aMo 7), .ref (aMo 8), .ref (aMo 9), .ref (aMo 10), .ref (aMo 11), .ref (aMo 12), .ref (aMo 13), .ref (aMo 14), .ref (aMo 15), .ref (aMo 16), .int (zI mo_size), .int (zI mo_runs), .ref (aMo 19), .ref (aMo 20), .ref (aMo 21), .int (zI mo_found), .int (zI mo_counted), .int (zI mo_isParted), .ref (aMo 25), .ref (aMo 26), .ref (aMo 27), .ref (aMo 28), .ref (aMo 29), .int (zI mo_maybes), .int (zI mo_days), .int (zI mo_over2), .int (zI mo_longer), .ref (aMo 34)])), ((aMo 5), .inl (ca 0, 4, .inl (zA mo_acts))), ((aMo 6), .inl (ca 0, 4, .inl (zA mo_minutes))), ((aMo 7), .inl (ca 0, 240, .inl (zA mo_kindOf))), ((aMo 8), .inl (ca 0, 240, .inl (zA mo_lengthOf))), ((aMo 10), .inl (ca 0, 2, .inl (zA mo_trips))), ((aMo 13), .inl (ca 0, 20160, .inl (zA mo_laid))), ((aMo 14), .inl (ca 0, 20161, .inl (zA mo_driven))), ((aMo 15), .inl (ca 0, 60, .inl (zA mo_runFrom))), ((aMo 16), .inl (ca 0, 60, .inl (zA mo_runTo)))] 66 [(0, .ref (aMo 0)), (1, .int (zI v1)), (2, .int (zI v2)), (3, .int (zI v3)), (4, .int (zI v4))] [] := by
    intro mo_laid mo_driven mo_runFrom mo_runTo mo_size mo_runs
    intro n66
    induction n66 with
    | zero =>
      intro v3 v4 hf
      exact zno hf
    | succ n66 ih66 =>
      have H95 : ∀ (v4 : Int) (s0 : Int) (mo_laid : Nat → Int) (mo_driven : Nat → Int) (mo_runFrom : Nat → Int) (mo_runTo : Nat → Int) (mo_size : Int) (mo_runs : Int), fX11_count_95 (zlp (fX11_count_66 v1 v2 mo_acts mo_minutes mo_laid mo_driven mo_runFrom mo_runTo mo_size mo_runs) n66) v4 s0 = some (r_o, mo_laid_o, mo_driven_o, mo_runFrom_o, mo_runTo_o, mo_size_o, mo_runs_o) → Zd D Γ 0 0 [((aMo 0), .inr (11, [.ref (aMo 1), .int (zI mo_taped), .ref (aMo 3), .ref (aMo 4), .ref (aMo 5), .ref (aMo 6), .ref (aMo 7), .ref (aMo 8), .ref (aMo 9), .ref (aMo 10), .ref (aMo 11), .ref (aMo 12), .ref (aMo 13), .ref (aMo 14), .ref (aMo 15), .ref (aMo 16), .int (zI mo_size), .int (zI mo_runs), .ref (aMo 19), .ref (aMo 20), .ref (aMo 21), .int (zI mo_found), .int (zI mo_counted), .int (zI mo_isParted), .ref (aMo 25), .ref (aMo 26), .ref (aMo 27), .ref (aMo 28), .ref (aMo 29), .int (zI mo_maybes), .int (zI mo_days), .int (zI mo_over2), .int (zI mo_longer), .ref (aMo 34)])), ((aMo 5), .inl (ca 0, 4, .inl (zA mo_acts))), ((aMo 6), .inl (ca 0, 4, .inl (zA mo_minutes))), ((aMo 7), .inl (ca 0, 240, .inl (zA mo_kindOf))), ((aMo 8), .inl (ca 0, 240, .inl (zA mo_lengthOf))), ((aMo 10), .inl (ca 0, 2, .inl (zA mo_trips))), ((aMo 13), .inl (ca 0, 20160, .inl (zA mo_laid))), ((aMo 14), .inl (ca 0, 20161, .inl (zA mo_driven))), ((aMo 15), .inl (ca 0, 60, .inl (zA mo_runFrom))), ((aMo 16), .inl (ca 0, 60, .inl (zA mo_runTo)))] 95 [(0, .ref (aMo 0)), (1, .int (zI v1)), (2, .int (zI v2)), (4, .int (zI v4))] [.int (zI s0)] := by
        intro v4 s0 mo_laid mo_driven mo_runFrom mo_runTo mo_size mo_runs hf
        unfold fX11_count_95 at hf
        refine g_istore_n (pc := 95) C (lv' := [(3, .int (zI s0)), (0, .ref (aMo 0)), (1, .int (zI v1)), (2, .int (zI v2)), (4, .int (zI v4))]) dX11_count_95 rfl (Nat.le_of_ble_eq_true rfl) rfl ?_
        refine g_iinc (pc := 96) C 4 (lv' := [(4, .int (zI (v4 + 1))), (3, .int (zI s0)), (0, .ref (aMo 0)), (1, .int (zI v1)), (2, .int (zI v2))]) dX11_count_96 rfl (Nat.le_of_ble_eq_true rfl) rfl ?_
        refine g_goto (pc := 99) C (tgt := 66) dX11_count_99 (by decide) ?_
        refine g_sub [0, 1, 2, 3, 4, 5, 6, 7, 8, 9] [2, 3, 4, 1, 0] (by decide) rfl rfl rfl ?_
        exact ih66 _ _ hf
      intro v3 v4 hf
      rw [zlp_s] at hf
      unfold fX11_count_66 at hf
      dsimp only at hf
      refine g_iload (pc := 66) C 4 dX11_count_66 rfl ?_
      refine g_aload_n (pc := 68) C 0 dX11_count_68 rfl rfl ?_
      refine g_get (pc := 69) C zf_X11_128 0 rfl rfl dX11_count_69 ?_
      refine g_icmp_ge (pc := 72) C (tgt := 102) dX11_count_72 (by decide) hf (fun hf => ?_) (fun hf => ?_)
      · refine g_iload_n (pc := 102) C 2 dX11_count_102 rfl rfl ?_
        obtain ⟨hx_103, hf⟩ := zck hf
        by_cases hc_103_0 : v2 = 0
        · rw [if_pos hc_103_0] at hf
          refine g_tabIn (pc := 103) C (tgt := 136) dX11_count_103 hx_103 hc_103_0 (by decide) (by decide) rfl (by decide) ?_
          refine g_aload_n (pc := 136) C 0 dX11_count_136 rfl rfl ?_
          refine g_get (pc := 137) C zf_X11_20 0 rfl rfl dX11_count_137 ?_
          refine g_iload_n (pc := 140) C 1 dX11_count_140 rfl rfl ?_
          refine g_iald (pc := 141) C (N := 4) 1 rfl rfl (Nat.le_of_ble_eq_true rfl) dX11_count_141 hf (fun hf => ?_)
          cases hf
          exact g_iret (pc := 142) C E (fun _ => 0) [0, 1, 2, 3, 4, 5, 6, 7, 8, 9] (by decide) rfl rfl (Nat.le_refl _) (Nat.le_refl _) dX11_count_142
        · rw [if_neg hc_103_0] at hf
          by_cases hc_103_1 : v2 = 1
          · rw [if_pos hc_103_1] at hf
            refine g_tabIn (pc := 103) C (tgt := 143) dX11_count_103 hx_103 hc_103_1 (by decide) (by decide) rfl (by decide) ?_
            refine g_aload_n (pc := 143) C 0 dX11_count_143 rfl rfl ?_
            refine g_get (pc := 144) C zf_X11_23 0 rfl rfl dX11_count_144 ?_
            refine g_iload_n (pc := 147) C 1 dX11_count_147 rfl rfl ?_
            refine g_iald (pc := 148) C (N := 4) 2 rfl rfl (Nat.le_of_ble_eq_true rfl) dX11_count_148 hf (fun hf => ?_)
            cases hf
            exact g_iret (pc := 149) C E (fun _ => 0) [0, 1, 2, 3, 4, 5, 6, 7, 8, 9] (by decide) rfl rfl (Nat.le_refl _) (Nat.le_refl _) dX11_count_149
          · rw [if_neg hc_103_1] at hf
            by_cases hc_103_2 : v2 = 2
            · rw [if_pos hc_103_2] at hf
              refine g_tabIn (pc := 103) C (tgt := 150) dX11_count_103 hx_103 hc_103_2 (by decide) (by decide) rfl (by decide) ?_
              refine g_aload_n (pc := 150) C 0 dX11_count_150 rfl rfl ?_
              refine g_get (pc := 151) C zf_X11_47 0 rfl rfl dX11_count_151 ?_
              refine g_aload_n (pc := 154) C 0 dX11_count_154 rfl rfl ?_
              refine g_get (pc := 155) C zf_X11_121 0 rfl rfl dX11_count_155 ?_
              refine g_iald (pc := 158) C (N := 20161) 7 rfl rfl (Nat.le_of_ble_eq_true rfl) dX11_count_158 hf (fun hf => ?_)
              cases hf
              exact g_iret (pc := 159) C E (fun _ => 0) [0, 1, 2, 3, 4, 5, 6, 7, 8, 9] (by decide) rfl rfl (Nat.le_refl _) (Nat.le_refl _) dX11_count_159
            · rw [if_neg hc_103_2] at hf
              by_cases hc_103_3 : v2 = 3
              · rw [if_pos hc_103_3] at hf
                refine g_tabIn (pc := 103) C (tgt := 160) dX11_count_103 hx_103 hc_103_3 (by decide) (by decide) rfl (by decide) ?_
                refine g_aload_n (pc := 160) C 0 dX11_count_160 rfl rfl ?_
                refine g_get (pc := 161) C zf_X11_128 0 rfl rfl dX11_count_161 ?_
                cases hf
                exact g_iret (pc := 164) C E (fun _ => 0) [0, 1, 2, 3, 4, 5, 6, 7, 8, 9] (by decide) rfl rfl (Nat.le_refl _) (Nat.le_refl _) dX11_count_164
              · rw [if_neg hc_103_3] at hf
                by_cases hc_103_4 : v2 = 4
                · rw [if_pos hc_103_4] at hf
                  refine g_tabIn (pc := 103) C (tgt := 165) dX11_count_103 hx_103 hc_103_4 (by decide) (by decide) rfl (by decide) ?_
                  refine g_iload_n (pc := 165) C 3 dX11_count_165 rfl rfl ?_
                  cases hf
                  exact g_iret (pc := 166) C E (fun _ => 0) [0, 1, 2, 3, 4, 5, 6, 7, 8, 9] (by decide) rfl rfl (Nat.le_refl _) (Nat.le_refl _) dX11_count_166
                · rw [if_neg hc_103_4] at hf
                  refine g_tabOut (pc := 103) C (tgt := 167) dX11_count_103 hx_103 (by omega) (by decide) ?_
                  refine g_iconst (pc := 167) C dX11_count_167 ?_
                  cases hf
                  exact g_iret (pc := 168) C E (fun _ => 0) [0, 1, 2, 3, 4, 5, 6, 7, 8, 9] (by decide) rfl rfl (Nat.le_refl _) (Nat.le_refl _) dX11_count_168
      · refine g_aload_n (pc := 75) C 0 dX11_count_75 rfl rfl ?_
        refine g_iload (pc := 76) C 4 dX11_count_76 rfl ?_
        obtain ⟨r_78, hc_78, hf⟩ := Option.bind_eq_some_iff.mp hf
        refine g_callV (pc := 78) C hl0 (wr := [((aMo 5), .inl (ca 0, 4, .inl (zA mo_acts))), ((aMo 6), .inl (ca 0, 4, .inl (zA mo_minutes))), ((aMo 7), .inl (ca 0, 240, .inl (zA mo_kindOf))), ((aMo 8), .inl (ca 0, 240, .inl (zA mo_lengthOf))), ((aMo 10), .inl (ca 0, 2, .inl (zA mo_trips))), ((aMo 13), .inl (ca 0, 20160, .inl (zA mo_laid))), ((aMo 14), .inl (ca 0, 20161, .inl (zA mo_driven)))]) (k' := 0) (n' := 0) (ws' := fun _ => [((aMo 5), .inl (ca 0, 4, .inl (zA mo_acts))), ((aMo 6), .inl (ca 0, 4, .inl (zA mo_minutes))), ((aMo 7), .inl (ca 0, 240, .inl (zA mo_kindOf))), ((aMo 8), .inl (ca 0, 240, .inl (zA mo_lengthOf))), ((aMo 10), .inl (ca 0, 2, .inl (zA mo_trips))), ((aMo 13), .inl (ca 0, 20160, .inl (zA mo_laid))), ((aMo 14), .inl (ca 0, 20161, .inl (zA mo_driven))), ((aMo 0), .inr (11, [.ref (aMo 1), .int (zI mo_taped), .ref (aMo 3), .ref (aMo 4), .ref (aMo 5), .ref (aMo 6), .ref (aMo 7), .ref (aMo 8), .ref (aMo 9), .ref (aMo 10), .ref (aMo 11), .ref (aMo 12), .ref (aMo 13), .ref (aMo 14), .ref (aMo 15), .ref (aMo 16), .int (zI mo_size), .int (zI mo_runs), .ref (aMo 19), .ref (aMo 20), .ref (aMo 21), .int (zI mo_found), .int (zI mo_counted), .int (zI mo_isParted), .ref (aMo 25), .ref (aMo 26), .ref (aMo 27), .ref (aMo 28), .ref (aMo 29), .int (zI mo_maybes), .int (zI mo_days), .int (zI mo_over2), .int (zI mo_longer), .ref (aMo 34)])), ((aMo 15), .inl (ca 0, 60, .inl (zA mo_runFrom))), ((aMo 16), .inl (ca 0, 60, .inl (zA mo_runTo)))]) (st' := [.int (zI r_78)]) (kX11_runLength l D ca aMo mo_taped mo_runFrom mo_runTo mo_size mo_runs mo_found mo_counted mo_isParted mo_maybes mo_days mo_over2 mo_longer v4 r_78 hc_78) wml_RX11_141 wim_X11_runLength wse_X11_runLength win_RX11 wco_X11_runLength (nA := 1) rfl (by decide +kernel)  ⟨(Nat.le_of_ble_eq_true rfl), (Nat.le_of_ble_eq_true rfl)⟩ (Nat.le_refl _) (Nat.le_refl _) rfl (by decide) dX11_count_78 0 11 rfl rfl rfl [0, 8, 9] [1, 2, 3, 4, 5, 6, 7] rfl rfl rfl (by decide) (by decide) (by decide) rfl rfl (fun _ => rfl) rfl (fun _ => ?_)
        refine g_iload_n (pc := 81) C 3 dX11_count_81 rfl rfl ?_
        refine g_icmp_le (pc := 82) C (tgt := 94) dX11_count_82 (by decide) hf (fun hf => ?_) (fun hf => ?_)
        · refine g_iload_n (pc := 94) C 3 dX11_count_94 rfl rfl ?_
          refine g_sub [7, 0, 1, 2, 3, 4, 5, 6, 8, 9] [0, 1, 2, 4] (by decide) rfl rfl rfl ?_
          exact H95 _ _ _ _ _ _ _ _ hf
        · refine g_aload_n (pc := 85) C 0 dX11_count_85 rfl rfl ?_
          refine g_iload (pc := 86) C 4 dX11_count_86 rfl ?_
          obtain ⟨r_88, hc_88, hf⟩ := Option.bind_eq_some_iff.mp hf
          refine g_callV (pc := 88) C hl0 (wr := [((aMo 5), .inl (ca 0, 4, .inl (zA mo_acts))), ((aMo 6), .inl (ca 0, 4, .inl (zA mo_minutes))), ((aMo 7), .inl (ca 0, 240, .inl (zA mo_kindOf))), ((aMo 8), .inl (ca 0, 240, .inl (zA mo_lengthOf))), ((aMo 10), .inl (ca 0, 2, .inl (zA mo_trips))), ((aMo 13), .inl (ca 0, 20160, .inl (zA mo_laid))), ((aMo 14), .inl (ca 0, 20161, .inl (zA mo_driven)))]) (k' := 0) (n' := 0) (ws' := fun _ => [((aMo 5), .inl (ca 0, 4, .inl (zA mo_acts))), ((aMo 6), .inl (ca 0, 4, .inl (zA mo_minutes))), ((aMo 7), .inl (ca 0, 240, .inl (zA mo_kindOf))), ((aMo 8), .inl (ca 0, 240, .inl (zA mo_lengthOf))), ((aMo 10), .inl (ca 0, 2, .inl (zA mo_trips))), ((aMo 13), .inl (ca 0, 20160, .inl (zA mo_laid))), ((aMo 14), .inl (ca 0, 20161, .inl (zA mo_driven))), ((aMo 0), .inr (11, [.ref (aMo 1), .int (zI mo_taped), .ref (aMo 3), .ref (aMo 4), .ref (aMo 5), .ref (aMo 6), .ref (aMo 7), .ref (aMo 8), .ref (aMo 9), .ref (aMo 10), .ref (aMo 11), .ref (aMo 12), .ref (aMo 13), .ref (aMo 14), .ref (aMo 15), .ref (aMo 16), .int (zI mo_size), .int (zI mo_runs), .ref (aMo 19), .ref (aMo 20), .ref (aMo 21), .int (zI mo_found), .int (zI mo_counted), .int (zI mo_isParted), .ref (aMo 25), .ref (aMo 26), .ref (aMo 27), .ref (aMo 28), .ref (aMo 29), .int (zI mo_maybes), .int (zI mo_days), .int (zI mo_over2), .int (zI mo_longer), .ref (aMo 34)])), ((aMo 15), .inl (ca 0, 60, .inl (zA mo_runFrom))), ((aMo 16), .inl (ca 0, 60, .inl (zA mo_runTo)))]) (st' := [.int (zI r_88)]) (kX11_runLength l D ca aMo mo_taped mo_runFrom mo_runTo mo_size mo_runs mo_found mo_counted mo_isParted mo_maybes mo_days mo_over2 mo_longer v4 r_88 hc_88) wml_RX11_141 wim_X11_runLength wse_X11_runLength win_RX11 wco_X11_runLength (nA := 1) rfl (by decide +kernel)  ⟨(Nat.le_of_ble_eq_true rfl), (Nat.le_of_ble_eq_true rfl)⟩ (Nat.le_refl _) (Nat.le_refl _) rfl (by decide) dX11_count_88 7 11 rfl rfl rfl [7, 8, 9] [0, 1, 2, 3, 4, 5, 6] rfl rfl rfl (by decide) (by decide) (by decide) rfl rfl (fun _ => rfl) rfl (fun _ => ?_)
          refine g_goto (pc := 91) C (tgt := 95) dX11_count_91 (by decide) ?_
          refine g_sub [7, 0, 1, 2, 3, 4, 5, 6, 8, 9] [0, 1, 2, 4] (by decide) rfl rfl rfl ?_
          exact H95 _ _ _ _ _ _ _ _ hf
  unfold fX11_count at hf
  refine g_iload_n (pc := 0) C 1 dX11_count_0 rfl rfl ?_
  refine g_iconst (pc := 1) C dX11_count_1 ?_
  refine g_icmp_ner (pc := 2) C (tgt := 46) dX11_count_2 (by decide) (by decide) hf (fun hf => ?_) (fun hf => ?_)
  · refine g_iload_n (pc := 46) C 1 dX11_count_46 rfl rfl ?_
    obtain ⟨r_47, hc_47, hf⟩ := Option.bind_eq_some_iff.mp hf
    refine g_callS (pc := 47) C hl0 (wr := [((aMo 0), .inr (11, [.ref (aMo 1), .int (zI mo_taped), .ref (aMo 3), .ref (aMo 4), .ref (aMo 5), .ref (aMo 6), .ref (aMo 7), .ref (aMo 8), .ref (aMo 9), .ref (aMo 10), .ref (aMo 11), .ref (aMo 12), .ref (aMo 13), .ref (aMo 14), .ref (aMo 15), .ref (aMo 16), .int (zI mo_size), .int (zI mo_runs), .ref (aMo 19), .ref (aMo 20), .ref (aMo 21), .int (zI mo_found), .int (zI mo_counted), .int (zI mo_isParted), .ref (aMo 25), .ref (aMo 26), .ref (aMo 27), .ref (aMo 28), .ref (aMo 29), .int (zI mo_maybes), .int (zI mo_days), .int (zI mo_over2), .int (zI mo_longer), .ref (aMo 34)])), ((aMo 5), .inl (ca 0, 4, .inl (zA mo_acts))), ((aMo 6), .inl (ca 0, 4, .inl (zA mo_minutes))), ((aMo 7), .inl (ca 0, 240, .inl (zA mo_kindOf))), ((aMo 8), .inl (ca 0, 240, .inl (zA mo_lengthOf))), ((aMo 10), .inl (ca 0, 2, .inl (zA mo_trips))), ((aMo 13), .inl (ca 0, 20160, .inl (zA mo_laid))), ((aMo 14), .inl (ca 0, 20161, .inl (zA mo_driven))), ((aMo 15), .inl (ca 0, 60, .inl (zA mo_runFrom))), ((aMo 16), .inl (ca 0, 60, .inl (zA mo_runTo)))]) (k' := 0) (n' := 0) (ws' := fun _ => [((aMo 0), .inr (11, [.ref (aMo 1), .int (zI mo_taped), .ref (aMo 3), .ref (aMo 4), .ref (aMo 5), .ref (aMo 6), .ref (aMo 7), .ref (aMo 8), .ref (aMo 9), .ref (aMo 10), .ref (aMo 11), .ref (aMo 12), .ref (aMo 13), .ref (aMo 14), .ref (aMo 15), .ref (aMo 16), .int (zI mo_size), .int (zI mo_runs), .ref (aMo 19), .ref (aMo 20), .ref (aMo 21), .int (zI mo_found), .int (zI mo_counted), .int (zI mo_isParted), .ref (aMo 25), .ref (aMo 26), .ref (aMo 27), .ref (aMo 28), .ref (aMo 29), .int (zI mo_maybes), .int (zI mo_days), .int (zI mo_over2), .int (zI mo_longer), .ref (aMo 34)])), ((aMo 5), .inl (ca 0, 4, .inl (zA mo_acts))), ((aMo 6), .inl (ca 0, 4, .inl (zA mo_minutes))), ((aMo 7), .inl (ca 0, 240, .inl (zA mo_kindOf))), ((aMo 8), .inl (ca 0, 240, .inl (zA mo_lengthOf))), ((aMo 10), .inl (ca 0, 2, .inl (zA mo_trips))), ((aMo 13), .inl (ca 0, 20160, .inl (zA mo_laid))), ((aMo 14), .inl (ca 0, 20161, .inl (zA mo_driven))), ((aMo 15), .inl (ca 0, 60, .inl (zA mo_runFrom))), ((aMo 16), .inl (ca 0, 60, .inl (zA mo_runTo)))]) (st' := [.int (zI r_47)]) (kX11_isCard l D ca v1 r_47 hc_47) wml_RX11_110 wst_X11_isCard win_RX11 wco_X11_isCard (nA := 1) rfl (by decide +kernel)  ⟨(Nat.le_of_ble_eq_true rfl), (Nat.le_of_ble_eq_true rfl)⟩ (Nat.le_refl _) (Nat.le_refl _) rfl (by decide) dX11_count_47 [] [0, 1, 2, 3, 4, 5, 6, 7, 8, 9] rfl rfl rfl (by decide) (by decide) (by decide) rfl rfl (fun _ => rfl) rfl (fun _ => ?_)
    refine g_if_ne (pc := 50) C (tgt := 55) dX11_count_50 (by decide) hf (fun hf => ?_) (fun hf => ?_)
    · refine g_aload_n (pc := 55) C 0 dX11_count_55 rfl rfl ?_
      refine g_iload_n (pc := 56) C 1 dX11_count_56 rfl rfl ?_
      refine g_iconst (pc := 57) C dX11_count_57 ?_
      obtain ⟨⟨mo_laid_58, mo_driven_58, mo_runFrom_58, mo_runTo_58, mo_size_58, mo_runs_58⟩, hc_58, hf⟩ := Option.bind_eq_some_iff.mp hf
      dsimp only at hf
      refine g_callV (pc := 58) C hl0 (wr := [((aMo 6), .inl (ca 0, 4, .inl (zA mo_minutes))), ((aMo 10), .inl (ca 0, 2, .inl (zA mo_trips)))]) (k' := 0) (n' := 0) (ws' := fun _ => [((aMo 6), .inl (ca 0, 4, .inl (zA mo_minutes))), ((aMo 10), .inl (ca 0, 2, .inl (zA mo_trips))), ((aMo 0), .inr (11, [.ref (aMo 1), .int (zI mo_taped), .ref (aMo 3), .ref (aMo 4), .ref (aMo 5), .ref (aMo 6), .ref (aMo 7), .ref (aMo 8), .ref (aMo 9), .ref (aMo 10), .ref (aMo 11), .ref (aMo 12), .ref (aMo 13), .ref (aMo 14), .ref (aMo 15), .ref (aMo 16), .int (zI mo_size_58), .int (zI mo_runs_58), .ref (aMo 19), .ref (aMo 20), .ref (aMo 21), .int (zI mo_found), .int (zI mo_counted), .int (zI mo_isParted), .ref (aMo 25), .ref (aMo 26), .ref (aMo 27), .ref (aMo 28), .ref (aMo 29), .int (zI mo_maybes), .int (zI mo_days), .int (zI mo_over2), .int (zI mo_longer), .ref (aMo 34)])), ((aMo 5), .inl (ca 0, 4, .inl (zA mo_acts))), ((aMo 7), .inl (ca 0, 240, .inl (zA mo_kindOf))), ((aMo 8), .inl (ca 0, 240, .inl (zA mo_lengthOf))), ((aMo 13), .inl (ca 0, 20160, .inl (zA mo_laid_58))), ((aMo 14), .inl (ca 0, 20161, .inl (zA mo_driven_58))), ((aMo 15), .inl (ca 0, 60, .inl (zA mo_runFrom_58))), ((aMo 16), .inl (ca 0, 60, .inl (zA mo_runTo_58)))]) (st' := []) (kX11_lays l D ca aMo mo_taped mo_acts mo_kindOf mo_lengthOf mo_laid mo_driven mo_runFrom mo_runTo mo_size mo_runs mo_found mo_counted mo_isParted mo_maybes mo_days mo_over2 mo_longer v1 0 mo_laid_58 mo_driven_58 mo_runFrom_58 mo_runTo_58 mo_size_58 mo_runs_58 hc_58) wml_RX11_198 wim_X11_lays wse_X11_lays win_RX11 wco_X11_lays (nA := 2) rfl (by decide +kernel)  ⟨(Nat.le_of_ble_eq_true rfl), (Nat.le_of_ble_eq_true rfl)⟩ (Nat.le_refl _) (Nat.le_refl _) rfl (by decide) dX11_count_58 0 11 rfl rfl rfl [0, 1, 3, 4, 6, 7, 8, 9] [2, 5] rfl rfl rfl (by decide) (by decide) (by decide) rfl rfl (fun _ => rfl) rfl (fun _ => ?_)
      refine g_iconst (pc := 61) C dX11_count_61 ?_
      refine g_istore_n (pc := 62) C (lv' := [(3, .int (zI 0)), (0, .ref (aMo 0)), (1, .int (zI v1)), (2, .int (zI v2))]) dX11_count_62 rfl (Nat.le_of_ble_eq_true rfl) rfl ?_
      refine g_iconst (pc := 63) C dX11_count_63 ?_
      refine g_istore (pc := 64) C (lv' := [(4, .int (zI 0)), (3, .int (zI 0)), (0, .ref (aMo 0)), (1, .int (zI v1)), (2, .int (zI v2))]) dX11_count_64 (Nat.le_of_ble_eq_true rfl) rfl ?_
      refine g_sub [2, 3, 0, 4, 5, 1, 6, 7, 8, 9] [2, 3, 4, 1, 0] (by decide) rfl rfl rfl ?_
      exact H66 _ _ _ _ _ _ _ _ _ hf
    · refine g_iconst (pc := 53) C dX11_count_53 ?_
      cases hf
      exact g_iret (pc := 54) C E (fun _ => 0) [0, 1, 2, 3, 4, 5, 6, 7, 8, 9] (by decide) rfl rfl (Nat.le_refl _) (Nat.le_refl _) dX11_count_54
  · refine g_iload_n (pc := 5) C 2 dX11_count_5 rfl rfl ?_
    refine g_if_ne (pc := 6) C (tgt := 16) dX11_count_6 (by decide) hf (fun hf => ?_) (fun hf => ?_)
    · refine g_iload_n (pc := 16) C 2 dX11_count_16 rfl rfl ?_
      refine g_iconst (pc := 17) C dX11_count_17 ?_
      refine g_icmp_ner (pc := 18) C (tgt := 30) dX11_count_18 (by decide) (by decide) hf (fun hf => ?_) (fun hf => ?_)
      · refine g_iload_n (pc := 30) C 2 dX11_count_30 rfl rfl ?_
        refine g_iconst (pc := 31) C dX11_count_31 ?_
        refine g_icmp_ner (pc := 32) C (tgt := 44) dX11_count_32 (by decide) (by decide) hf (fun hf => ?_) (fun hf => ?_)
        · refine g_iconst (pc := 44) C dX11_count_44 ?_
          cases hf
          exact g_iret (pc := 45) C E (fun _ => 0) [0, 1, 2, 3, 4, 5, 6, 7, 8, 9] (by decide) rfl rfl (Nat.le_refl _) (Nat.le_refl _) dX11_count_45
        · refine g_aload_n (pc := 35) C 0 dX11_count_35 rfl rfl ?_
          refine g_get (pc := 36) C zf_X11_35 0 rfl rfl dX11_count_36 ?_
          refine g_iconst (pc := 39) C dX11_count_39 ?_
          refine g_ialdK (pc := 40) C 1 5 rfl rfl (Nat.le_of_ble_eq_true rfl) (Nat.le_of_ble_eq_true rfl) dX11_count_40 ?_
          refine g_goto (pc := 41) C (tgt := 45) dX11_count_41 (by decide) ?_
          cases hf
          exact g_iret (pc := 45) C E (fun _ => 0) [0, 1, 2, 3, 4, 5, 6, 7, 8, 9] (by decide) rfl rfl (Nat.le_refl _) (Nat.le_refl _) dX11_count_45
      · refine g_aload_n (pc := 21) C 0 dX11_count_21 rfl rfl ?_
        refine g_get (pc := 22) C zf_X11_35 0 rfl rfl dX11_count_22 ?_
        refine g_iconst (pc := 25) C dX11_count_25 ?_
        refine g_ialdK (pc := 26) C 0 5 rfl rfl (Nat.le_of_ble_eq_true rfl) (Nat.le_of_ble_eq_true rfl) dX11_count_26 ?_
        refine g_goto (pc := 27) C (tgt := 45) dX11_count_27 (by decide) ?_
        cases hf
        exact g_iret (pc := 45) C E (fun _ => 0) [0, 1, 2, 3, 4, 5, 6, 7, 8, 9] (by decide) rfl rfl (Nat.le_refl _) (Nat.le_refl _) dX11_count_45
    · refine g_aload_n (pc := 9) C 0 dX11_count_9 rfl rfl ?_
      refine g_get (pc := 10) C zf_X11_88 0 rfl rfl dX11_count_10 ?_
      refine g_goto (pc := 13) C (tgt := 45) dX11_count_13 (by decide) ?_
      cases hf
      exact g_iret (pc := 45) C E (fun _ => 0) [0, 1, 2, 3, 4, 5, 6, 7, 8, 9] (by decide) rfl rfl (Nat.le_refl _) (Nat.le_refl _) dX11_count_45
set_option maxRecDepth 100000 in
theorem kX11_day (l : Launch) (D : va_G) (ca : Nat → ClassId) (aMo : Nat → Nat) (mo_taped : Int) (mo_rules : Nat → Int) (mo_acts : Nat → Int) (mo_kindOf : Nat → Int) (mo_lengthOf : Nat → Int) (mo_laid : Nat → Int) (mo_driven : Nat → Int) (mo_runFrom : Nat → Int) (mo_runTo : Nat → Int) (mo_size : Int) (mo_runs : Int) (mo_found : Int) (mo_counted : Int) (mo_isParted : Int) (mo_maybe : Nat → Int) (mo_dayFrom : Nat → Int) (mo_dayTo : Nat → Int) (mo_dayRun : Nat → Int) (mo_isLonger : Nat → Int) (mo_maybes : Int) (mo_days : Int) (mo_over2 : Int) (mo_longer : Int) (v1 : Int) (v2 : Int) (v3 : Int) (v4 : Int) (r_o : Int) (mo_laid_o : Nat → Int) (mo_driven_o : Nat → Int) (mo_runFrom_o : Nat → Int) (mo_runTo_o : Nat → Int) (mo_size_o : Int) (mo_runs_o : Int) (mo_maybe_o : Nat → Int) (mo_dayFrom_o : Nat → Int) (mo_dayTo_o : Nat → Int) (mo_dayRun_o : Nat → Int) (mo_isLonger_o : Nat → Int) (mo_maybes_o : Int) (mo_days_o : Int) (mo_over2_o : Int) (mo_longer_o : Int)
    (hf : fX11_day v1 v2 v3 v4 mo_rules mo_acts mo_kindOf mo_lengthOf mo_laid mo_driven mo_runFrom mo_runTo mo_size mo_runs mo_maybe mo_dayFrom mo_dayTo mo_dayRun mo_isLonger mo_maybes mo_days mo_over2 mo_longer = some (r_o, mo_laid_o, mo_driven_o, mo_runFrom_o, mo_runTo_o, mo_size_o, mo_runs_o, mo_maybe_o, mo_dayFrom_o, mo_dayTo_o, mo_dayRun_o, mo_isLonger_o, mo_maybes_o, mo_days_o, mo_over2_o, mo_longer_o)) : Zc l D ca yX11_day cX11_day 5 (some .int) { frames := 5, cells := 0, slots := 0, locals := 119 } [.ref (aMo 0), .int (zI v1), .int (zI v2), .int (zI v3), .int (zI v4)] [((aMo 0), .inr (11, [.ref (aMo 1), .int (zI mo_taped), .ref (aMo 3), .ref (aMo 4), .ref (aMo 5), .ref (aMo 6), .ref (aMo 7), .ref (aMo 8), .ref (aMo 9), .ref (aMo 10), .ref (aMo 11), .ref (aMo 12), .ref (aMo 13), .ref (aMo 14), .ref (aMo 15), .ref (aMo 16), .int (zI mo_size), .int (zI mo_runs), .ref (aMo 19), .ref (aMo 20), .ref (aMo 21), .int (zI mo_found), .int (zI mo_counted), .int (zI mo_isParted), .ref (aMo 25), .ref (aMo 26), .ref (aMo 27), .ref (aMo 28), .ref (aMo 29), .int (zI mo_maybes), .int (zI mo_days), .int (zI mo_over2), .int (zI mo_longer), .ref (aMo 34)])), ((aMo 3), .inl (ca 0, 11, .inl (zA mo_rules))), ((aMo 5), .inl (ca 0, 4, .inl (zA mo_acts))), ((aMo 7), .inl (ca 0, 240, .inl (zA mo_kindOf))), ((aMo 8), .inl (ca 0, 240, .inl (zA mo_lengthOf))), ((aMo 13), .inl (ca 0, 20160, .inl (zA mo_laid))), ((aMo 14), .inl (ca 0, 20161, .inl (zA mo_driven))), ((aMo 15), .inl (ca 0, 60, .inl (zA mo_runFrom))), ((aMo 16), .inl (ca 0, 60, .inl (zA mo_runTo))), ((aMo 25), .inl (ca 0, 12, .inl (zA mo_maybe))), ((aMo 26), .inl (ca 0, 62, .inl (zA mo_dayFrom))), ((aMo 27), .inl (ca 0, 62, .inl (zA mo_dayTo))), ((aMo 28), .inl (ca 0, 62, .inl (zA mo_dayRun))), ((aMo 29), .inl (ca 3, 62, .inl (zA mo_isLonger)))] (some (.int (zI r_o))) (fun _ => [((aMo 0), .inr (11, [.ref (aMo 1), .int (zI mo_taped), .ref (aMo 3), .ref (aMo 4), .ref (aMo 5), .ref (aMo 6), .ref (aMo 7), .ref (aMo 8), .ref (aMo 9), .ref (aMo 10), .ref (aMo 11), .ref (aMo 12), .ref (aMo 13), .ref (aMo 14), .ref (aMo 15), .ref (aMo 16), .int (zI mo_size_o), .int (zI mo_runs_o), .ref (aMo 19), .ref (aMo 20), .ref (aMo 21), .int (zI mo_found), .int (zI mo_counted), .int (zI mo_isParted), .ref (aMo 25), .ref (aMo 26), .ref (aMo 27), .ref (aMo 28), .ref (aMo 29), .int (zI mo_maybes_o), .int (zI mo_days_o), .int (zI mo_over2_o), .int (zI mo_longer_o), .ref (aMo 34)])), ((aMo 3), .inl (ca 0, 11, .inl (zA mo_rules))), ((aMo 5), .inl (ca 0, 4, .inl (zA mo_acts))), ((aMo 7), .inl (ca 0, 240, .inl (zA mo_kindOf))), ((aMo 8), .inl (ca 0, 240, .inl (zA mo_lengthOf))), ((aMo 13), .inl (ca 0, 20160, .inl (zA mo_laid_o))), ((aMo 14), .inl (ca 0, 20161, .inl (zA mo_driven_o))), ((aMo 15), .inl (ca 0, 60, .inl (zA mo_runFrom_o))), ((aMo 16), .inl (ca 0, 60, .inl (zA mo_runTo_o))), ((aMo 25), .inl (ca 0, 12, .inl (zA mo_maybe_o))), ((aMo 26), .inl (ca 0, 62, .inl (zA mo_dayFrom_o))), ((aMo 27), .inl (ca 0, 62, .inl (zA mo_dayTo_o))), ((aMo 28), .inl (ca 0, 62, .inl (zA mo_dayRun_o))), ((aMo 29), .inl (ca 3, 62, .inl (zA mo_isLonger_o)))]) := by
  refine ctr_of (lv := [(0, .ref (aMo 0)), (1, .int (zI v1)), (2, .int (zI v2)), (3, .int (zI v3)), (4, .int (zI v4))]) (by decide +kernel) (Nat.le_of_ble_eq_true rfl) rfl (fun Γ hl0 C E hnm => ?_)
  have H11 : ∀ (mo_laid : Nat → Int) (mo_driven : Nat → Int) (mo_runFrom : Nat → Int) (mo_runTo : Nat → Int) (mo_size : Int) (mo_runs : Int) (mo_maybe : Nat → Int) (mo_dayFrom : Nat → Int) (mo_dayTo : Nat → Int) (mo_dayRun : Nat → Int) (mo_isLonger : Nat → Int) (mo_maybes : Int) (mo_days : Int) (mo_over2 : Int) (mo_longer : Int), fX11_day_11 mo_laid mo_driven mo_runFrom mo_runTo mo_size mo_runs mo_maybe mo_dayFrom mo_dayTo mo_dayRun mo_isLonger mo_maybes mo_days mo_over2 mo_longer = some (r_o, mo_laid_o, mo_driven_o, mo_runFrom_o, mo_runTo_o, mo_size_o, mo_runs_o, mo_maybe_o, mo_dayFrom_o, mo_dayTo_o, mo_dayRun_o, mo_isLonger_o, mo_maybes_o, mo_days_o, mo_over2_o, mo_longer_o) → Zd D Γ 0 0 [((aMo 0), .inr (11, [.ref (aMo 1), .int (zI mo_taped), .ref (aMo 3), .ref (aMo 4), .ref (aMo 5), .ref (aMo 6), .ref (aMo 7), .ref (aMo 8), .ref (aMo 9), .ref (aMo 10), .ref (aMo 11), .ref (aMo 12), .ref (aMo 13), .ref (aMo 14), .ref (aMo 15), .ref (aMo 16), .int (zI mo_size), .int (zI mo_runs), .ref (aMo 19), .ref (aMo 20), .ref (aMo 21), .int (zI mo_found), .int (zI mo_counted), .int (zI mo_isParted), .ref (aMo 25), .ref (aMo 26), .ref (aMo 27), .ref (aMo 28), .ref (aMo 29), .int (zI mo_maybes), .int (zI mo_days), .int (zI mo_over2), .int (zI mo_longer), .ref (aMo 34)])), ((aMo 3), .inl (ca 0, 11, .inl (zA mo_rules))), ((aMo 5), .inl (ca 0, 4, .inl (zA mo_acts))), ((aMo 7), .inl (ca 0, 240, .inl (zA mo_kindOf))), ((aMo 8), .inl (ca 0, 240, .inl (zA mo_lengthOf))), ((aMo 13), .inl (ca 0, 20160, .inl (zA mo_laid))), ((aMo 14), .inl (ca 0, 20161, .inl (zA mo_driven))), ((aMo 15), .inl (ca 0, 60, .inl (zA mo_runFrom))), ((aMo 16), .inl (ca 0, 60, .inl (zA mo_runTo))), ((aMo 25), .inl (ca 0, 12, .inl (zA mo_maybe))), ((aMo 26), .inl (ca 0, 62, .inl (zA mo_dayFrom))), ((aMo 27), .inl (ca 0, 62, .inl (zA mo_dayTo))), ((aMo 28), .inl (ca 0, 62, .inl (zA mo_dayRun))), ((aMo 29), .inl (ca 3, 62, .inl (zA mo_isLonger)))] 11 [] [] := by
    intro mo_laid mo_driven mo_runFrom mo_runTo mo_size mo_runs mo_maybe mo_dayFrom mo_dayTo mo_dayRun mo_isLonger mo_maybes mo_days mo_over2 mo_longer hf
    unfold fX11_day_11 at hf
    refine g_iconst (pc := 11) C dX11_day_11 ?_
    cases hf
    exact g_iret (pc := 12) C E (fun _ => 0) [0, 1, 2, 3, 4, 5, 6, 7, 8, 9, 10, 11, 12, 13] (by decide) rfl rfl (Nat.le_refl _) (Nat.le_refl _) dX11_day_12
  unfold fX11_day at hf
  refine g_iload_n (pc := 0) C 1 dX11_day_0 rfl rfl ?_
  obtain ⟨r_1, hc_1, hf⟩ := Option.bind_eq_some_iff.mp hf
  refine g_callS (pc := 1) C hl0 (wr := [((aMo 0), .inr (11, [.ref (aMo 1), .int (zI mo_taped), .ref (aMo 3), .ref (aMo 4), .ref (aMo 5), .ref (aMo 6), .ref (aMo 7), .ref (aMo 8), .ref (aMo 9), .ref (aMo 10), .ref (aMo 11), .ref (aMo 12), .ref (aMo 13), .ref (aMo 14), .ref (aMo 15), .ref (aMo 16), .int (zI mo_size), .int (zI mo_runs), .ref (aMo 19), .ref (aMo 20), .ref (aMo 21), .int (zI mo_found), .int (zI mo_counted), .int (zI mo_isParted), .ref (aMo 25), .ref (aMo 26), .ref (aMo 27), .ref (aMo 28), .ref (aMo 29), .int (zI mo_maybes), .int (zI mo_days), .int (zI mo_over2), .int (zI mo_longer), .ref (aMo 34)])), ((aMo 3), .inl (ca 0, 11, .inl (zA mo_rules))), ((aMo 5), .inl (ca 0, 4, .inl (zA mo_acts))), ((aMo 7), .inl (ca 0, 240, .inl (zA mo_kindOf))), ((aMo 8), .inl (ca 0, 240, .inl (zA mo_lengthOf))), ((aMo 13), .inl (ca 0, 20160, .inl (zA mo_laid))), ((aMo 14), .inl (ca 0, 20161, .inl (zA mo_driven))), ((aMo 15), .inl (ca 0, 60, .inl (zA mo_runFrom))), ((aMo 16), .inl (ca 0, 60, .inl (zA mo_runTo))), ((aMo 25), .inl (ca 0, 12, .inl (zA mo_maybe))), ((aMo 26), .inl (ca 0, 62, .inl (zA mo_dayFrom))), ((aMo 27), .inl (ca 0, 62, .inl (zA mo_dayTo))), ((aMo 28), .inl (ca 0, 62, .inl (zA mo_dayRun))), ((aMo 29), .inl (ca 3, 62, .inl (zA mo_isLonger)))]) (k' := 0) (n' := 0) (ws' := fun _ => [((aMo 0), .inr (11, [.ref (aMo 1), .int (zI mo_taped), .ref (aMo 3), .ref (aMo 4), .ref (aMo 5), .ref (aMo 6), .ref (aMo 7), .ref (aMo 8), .ref (aMo 9), .ref (aMo 10), .ref (aMo 11), .ref (aMo 12), .ref (aMo 13), .ref (aMo 14), .ref (aMo 15), .ref (aMo 16), .int (zI mo_size), .int (zI mo_runs), .ref (aMo 19), .ref (aMo 20), .ref (aMo 21), .int (zI mo_found), .int (zI mo_counted), .int (zI mo_isParted), .ref (aMo 25), .ref (aMo 26), .ref (aMo 27), .ref (aMo 28), .ref (aMo 29), .int (zI mo_maybes), .int (zI mo_days), .int (zI mo_over2), .int (zI mo_longer), .ref (aMo 34)])), ((aMo 3), .inl (ca 0, 11, .inl (zA mo_rules))), ((aMo 5), .inl (ca 0, 4, .inl (zA mo_acts))), ((aMo 7), .inl (ca 0, 240, .inl (zA mo_kindOf))), ((aMo 8), .inl (ca 0, 240, .inl (zA mo_lengthOf))), ((aMo 13), .inl (ca 0, 20160, .inl (zA mo_laid))), ((aMo 14), .inl (ca 0, 20161, .inl (zA mo_driven))), ((aMo 15), .inl (ca 0, 60, .inl (zA mo_runFrom))), ((aMo 16), .inl (ca 0, 60, .inl (zA mo_runTo))), ((aMo 25), .inl (ca 0, 12, .inl (zA mo_maybe))), ((aMo 26), .inl (ca 0, 62, .inl (zA mo_dayFrom))), ((aMo 27), .inl (ca 0, 62, .inl (zA mo_dayTo))), ((aMo 28), .inl (ca 0, 62, .inl (zA mo_dayRun))), ((aMo 29), .inl (ca 3, 62, .inl (zA mo_isLonger)))]) (st' := [.int (zI r_1)]) (kX11_isCard l D ca v1 r_1 hc_1) wml_RX11_110 wst_X11_isCard win_RX11 wco_X11_isCard (nA := 1) rfl (by decide +kernel)  ⟨(Nat.le_of_ble_eq_true rfl), (Nat.le_of_ble_eq_true rfl)⟩ (Nat.le_refl _) (Nat.le_refl _) rfl (by decide) dX11_day_1 [] [0, 1, 2, 3, 4, 5, 6, 7, 8, 9, 10, 11, 12, 13] rfl rfl rfl (by decide) (by decide) (by decide) rfl rfl (fun _ => rfl) rfl (fun _ => ?_)
  refine g_if_eq (pc := 4) C (tgt := 11) dX11_day_4 (by decide) hf (fun hf => ?_) (fun hf => ?_)
  · refine g_sub [0, 1, 2, 3, 4, 5, 6, 7, 8, 9, 10, 11, 12, 13] [] (by decide) rfl rfl rfl ?_
    exact H11 _ _ _ _ _ _ _ _ _ _ _ _ _ _ _ hf
  · refine g_iload_n (pc := 7) C 3 dX11_day_7 rfl rfl ?_
    refine g_if_ge (pc := 8) C (tgt := 13) dX11_day_8 (by decide) hf (fun hf => ?_) (fun hf => ?_)
    · refine g_aload_n (pc := 13) C 0 dX11_day_13 rfl rfl ?_
      refine g_iload_n (pc := 14) C 1 dX11_day_14 rfl rfl ?_
      refine g_iload_n (pc := 15) C 2 dX11_day_15 rfl rfl ?_
      obtain ⟨⟨mo_laid_16, mo_driven_16, mo_runFrom_16, mo_runTo_16, mo_size_16, mo_runs_16⟩, hc_16, hf⟩ := Option.bind_eq_some_iff.mp hf
      dsimp only at hf
      refine g_callV (pc := 16) C hl0 (wr := [((aMo 3), .inl (ca 0, 11, .inl (zA mo_rules))), ((aMo 25), .inl (ca 0, 12, .inl (zA mo_maybe))), ((aMo 26), .inl (ca 0, 62, .inl (zA mo_dayFrom))), ((aMo 27), .inl (ca 0, 62, .inl (zA mo_dayTo))), ((aMo 28), .inl (ca 0, 62, .inl (zA mo_dayRun))), ((aMo 29), .inl (ca 3, 62, .inl (zA mo_isLonger)))]) (k' := 0) (n' := 0) (ws' := fun _ => [((aMo 3), .inl (ca 0, 11, .inl (zA mo_rules))), ((aMo 25), .inl (ca 0, 12, .inl (zA mo_maybe))), ((aMo 26), .inl (ca 0, 62, .inl (zA mo_dayFrom))), ((aMo 27), .inl (ca 0, 62, .inl (zA mo_dayTo))), ((aMo 28), .inl (ca 0, 62, .inl (zA mo_dayRun))), ((aMo 29), .inl (ca 3, 62, .inl (zA mo_isLonger))), ((aMo 0), .inr (11, [.ref (aMo 1), .int (zI mo_taped), .ref (aMo 3), .ref (aMo 4), .ref (aMo 5), .ref (aMo 6), .ref (aMo 7), .ref (aMo 8), .ref (aMo 9), .ref (aMo 10), .ref (aMo 11), .ref (aMo 12), .ref (aMo 13), .ref (aMo 14), .ref (aMo 15), .ref (aMo 16), .int (zI mo_size_16), .int (zI mo_runs_16), .ref (aMo 19), .ref (aMo 20), .ref (aMo 21), .int (zI mo_found), .int (zI mo_counted), .int (zI mo_isParted), .ref (aMo 25), .ref (aMo 26), .ref (aMo 27), .ref (aMo 28), .ref (aMo 29), .int (zI mo_maybes), .int (zI mo_days), .int (zI mo_over2), .int (zI mo_longer), .ref (aMo 34)])), ((aMo 5), .inl (ca 0, 4, .inl (zA mo_acts))), ((aMo 7), .inl (ca 0, 240, .inl (zA mo_kindOf))), ((aMo 8), .inl (ca 0, 240, .inl (zA mo_lengthOf))), ((aMo 13), .inl (ca 0, 20160, .inl (zA mo_laid_16))), ((aMo 14), .inl (ca 0, 20161, .inl (zA mo_driven_16))), ((aMo 15), .inl (ca 0, 60, .inl (zA mo_runFrom_16))), ((aMo 16), .inl (ca 0, 60, .inl (zA mo_runTo_16)))]) (st' := []) (kX11_lays l D ca aMo mo_taped mo_acts mo_kindOf mo_lengthOf mo_laid mo_driven mo_runFrom mo_runTo mo_size mo_runs mo_found mo_counted mo_isParted mo_maybes mo_days mo_over2 mo_longer v1 v2 mo_laid_16 mo_driven_16 mo_runFrom_16 mo_runTo_16 mo_size_16 mo_runs_16 hc_16) wml_RX11_198 wim_X11_lays wse_X11_lays win_RX11 wco_X11_lays (nA := 2) rfl (by decide +kernel)  ⟨(Nat.le_of_ble_eq_true rfl), (Nat.le_of_ble_eq_true rfl)⟩ (Nat.le_refl _) (Nat.le_refl _) rfl (by decide) dX11_day_16 0 11 rfl rfl rfl [0, 2, 3, 4, 5, 6, 7, 8] [1, 9, 10, 11, 12, 13] rfl rfl rfl (by decide) (by decide) (by decide) rfl rfl (fun _ => rfl) rfl (fun _ => ?_)
      refine g_aload_n (pc := 19) C 0 dX11_day_19 rfl rfl ?_
      obtain ⟨⟨mo_maybe_20, mo_dayFrom_20, mo_dayTo_20, mo_dayRun_20, mo_isLonger_20, mo_maybes_20, mo_days_20, mo_over2_20, mo_longer_20⟩, hc_20, hf⟩ := Option.bind_eq_some_iff.mp hf
      dsimp only at hf
      refine g_callV (pc := 20) C hl0 (wr := [((aMo 5), .inl (ca 0, 4, .inl (zA mo_acts))), ((aMo 7), .inl (ca 0, 240, .inl (zA mo_kindOf))), ((aMo 8), .inl (ca 0, 240, .inl (zA mo_lengthOf))), ((aMo 13), .inl (ca 0, 20160, .inl (zA mo_laid_16)))]) (k' := 0) (n' := 0) (ws' := fun _ => [((aMo 5), .inl (ca 0, 4, .inl (zA mo_acts))), ((aMo 7), .inl (ca 0, 240, .inl (zA mo_kindOf))), ((aMo 8), .inl (ca 0, 240, .inl (zA mo_lengthOf))), ((aMo 13), .inl (ca 0, 20160, .inl (zA mo_laid_16))), ((aMo 0), .inr (11, [.ref (aMo 1), .int (zI mo_taped), .ref (aMo 3), .ref (aMo 4), .ref (aMo 5), .ref (aMo 6), .ref (aMo 7), .ref (aMo 8), .ref (aMo 9), .ref (aMo 10), .ref (aMo 11), .ref (aMo 12), .ref (aMo 13), .ref (aMo 14), .ref (aMo 15), .ref (aMo 16), .int (zI mo_size_16), .int (zI mo_runs_16), .ref (aMo 19), .ref (aMo 20), .ref (aMo 21), .int (zI mo_found), .int (zI mo_counted), .int (zI mo_isParted), .ref (aMo 25), .ref (aMo 26), .ref (aMo 27), .ref (aMo 28), .ref (aMo 29), .int (zI mo_maybes_20), .int (zI mo_days_20), .int (zI mo_over2_20), .int (zI mo_longer_20), .ref (aMo 34)])), ((aMo 3), .inl (ca 0, 11, .inl (zA mo_rules))), ((aMo 14), .inl (ca 0, 20161, .inl (zA mo_driven_16))), ((aMo 15), .inl (ca 0, 60, .inl (zA mo_runFrom_16))), ((aMo 16), .inl (ca 0, 60, .inl (zA mo_runTo_16))), ((aMo 25), .inl (ca 0, 12, .inl (zA mo_maybe_20))), ((aMo 26), .inl (ca 0, 62, .inl (zA mo_dayFrom_20))), ((aMo 27), .inl (ca 0, 62, .inl (zA mo_dayTo_20))), ((aMo 28), .inl (ca 0, 62, .inl (zA mo_dayRun_20))), ((aMo 29), .inl (ca 3, 62, .inl (zA mo_isLonger_20)))]) (st' := []) (kX11_chooses l D ca aMo mo_taped mo_rules mo_driven_16 mo_runFrom_16 mo_runTo_16 mo_size_16 mo_runs_16 mo_found mo_counted mo_isParted mo_maybe mo_dayFrom mo_dayTo mo_dayRun mo_isLonger mo_maybes mo_days mo_over2 mo_longer mo_maybe_20 mo_dayFrom_20 mo_dayTo_20 mo_dayRun_20 mo_isLonger_20 mo_maybes_20 mo_days_20 mo_over2_20 mo_longer_20 hc_20) wml_RX11_205 wim_X11_chooses wse_X11_chooses win_RX11 wco_X11_chooses (nA := 0) rfl (by decide +kernel)  ⟨(Nat.le_of_ble_eq_true rfl), (Nat.le_of_ble_eq_true rfl)⟩ (Nat.le_refl _) (Nat.le_refl _) rfl (by decide) dX11_day_20 6 11 rfl rfl rfl [6, 0, 11, 12, 13, 1, 2, 3, 4, 5] [7, 8, 9, 10] rfl rfl rfl (by decide) (by decide) (by decide) rfl rfl (fun _ => rfl) rfl (fun _ => ?_)
      refine g_iload_n (pc := 23) C 3 dX11_day_23 rfl rfl ?_
      refine g_aload_n (pc := 24) C 0 dX11_day_24 rfl rfl ?_
      refine g_get (pc := 25) C zf_X11_154 4 rfl rfl dX11_day_25 ?_
      refine g_icmp_lt (pc := 28) C (tgt := 33) dX11_day_28 (by decide) hf (fun hf => ?_) (fun hf => ?_)
      · refine g_iload (pc := 33) C 4 dX11_day_33 rfl ?_
        obtain ⟨hx_35, hf⟩ := zck hf
        by_cases hc_35_0 : v4 = 0
        · rw [if_pos hc_35_0] at hf
          refine g_tabIn (pc := 35) C (tgt := 68) dX11_day_35 hx_35 hc_35_0 (by decide) (by decide) rfl (by decide) ?_
          refine g_aload_n (pc := 68) C 0 dX11_day_68 rfl rfl ?_
          refine g_get (pc := 69) C zf_X11_68 4 rfl rfl dX11_day_69 ?_
          refine g_iload_n (pc := 72) C 3 dX11_day_72 rfl rfl ?_
          refine g_iald (pc := 73) C (N := 62) 10 rfl rfl (Nat.le_of_ble_eq_true rfl) dX11_day_73 hf (fun hf => ?_)
          cases hf
          exact g_iret (pc := 74) C E (fun _ => 0) [4, 5, 0, 1, 2, 3, 6, 7, 8, 9, 10, 11, 12, 13] (by decide) rfl rfl (Nat.le_refl _) (Nat.le_refl _) dX11_day_74
        · rw [if_neg hc_35_0] at hf
          by_cases hc_35_1 : v4 = 1
          · rw [if_pos hc_35_1] at hf
            refine g_tabIn (pc := 35) C (tgt := 75) dX11_day_35 hx_35 hc_35_1 (by decide) (by decide) rfl (by decide) ?_
            refine g_aload_n (pc := 75) C 0 dX11_day_75 rfl rfl ?_
            refine g_get (pc := 76) C zf_X11_71 4 rfl rfl dX11_day_76 ?_
            refine g_iload_n (pc := 79) C 3 dX11_day_79 rfl rfl ?_
            refine g_iald (pc := 80) C (N := 62) 11 rfl rfl (Nat.le_of_ble_eq_true rfl) dX11_day_80 hf (fun hf => ?_)
            cases hf
            exact g_iret (pc := 81) C E (fun _ => 0) [4, 5, 0, 1, 2, 3, 6, 7, 8, 9, 10, 11, 12, 13] (by decide) rfl rfl (Nat.le_refl _) (Nat.le_refl _) dX11_day_81
          · rw [if_neg hc_35_1] at hf
            by_cases hc_35_2 : v4 = 2
            · rw [if_pos hc_35_2] at hf
              refine g_tabIn (pc := 35) C (tgt := 82) dX11_day_35 hx_35 hc_35_2 (by decide) (by decide) rfl (by decide) ?_
              refine g_aload_n (pc := 82) C 0 dX11_day_82 rfl rfl ?_
              refine g_aload_n (pc := 83) C 0 dX11_day_83 rfl rfl ?_
              refine g_get (pc := 84) C zf_X11_68 4 rfl rfl dX11_day_84 ?_
              refine g_iload_n (pc := 87) C 3 dX11_day_87 rfl rfl ?_
              refine g_iald (pc := 88) C (N := 62) 10 rfl rfl (Nat.le_of_ble_eq_true rfl) dX11_day_88 hf (fun hf => ?_)
              refine g_aload_n (pc := 89) C 0 dX11_day_89 rfl rfl ?_
              refine g_get (pc := 90) C zf_X11_71 4 rfl rfl dX11_day_90 ?_
              refine g_iload_n (pc := 93) C 3 dX11_day_93 rfl rfl ?_
              refine g_iald (pc := 94) C (N := 62) 11 rfl rfl (Nat.le_of_ble_eq_true rfl) dX11_day_94 hf (fun hf => ?_)
              obtain ⟨r_95, hc_95, hf⟩ := Option.bind_eq_some_iff.mp hf
              refine g_callV (pc := 95) C hl0 (wr := [((aMo 5), .inl (ca 0, 4, .inl (zA mo_acts))), ((aMo 7), .inl (ca 0, 240, .inl (zA mo_kindOf))), ((aMo 8), .inl (ca 0, 240, .inl (zA mo_lengthOf))), ((aMo 13), .inl (ca 0, 20160, .inl (zA mo_laid_16))), ((aMo 3), .inl (ca 0, 11, .inl (zA mo_rules))), ((aMo 15), .inl (ca 0, 60, .inl (zA mo_runFrom_16))), ((aMo 16), .inl (ca 0, 60, .inl (zA mo_runTo_16))), ((aMo 25), .inl (ca 0, 12, .inl (zA mo_maybe_20))), ((aMo 26), .inl (ca 0, 62, .inl (zA mo_dayFrom_20))), ((aMo 27), .inl (ca 0, 62, .inl (zA mo_dayTo_20))), ((aMo 28), .inl (ca 0, 62, .inl (zA mo_dayRun_20))), ((aMo 29), .inl (ca 3, 62, .inl (zA mo_isLonger_20)))]) (k' := 0) (n' := 0) (ws' := fun _ => [((aMo 5), .inl (ca 0, 4, .inl (zA mo_acts))), ((aMo 7), .inl (ca 0, 240, .inl (zA mo_kindOf))), ((aMo 8), .inl (ca 0, 240, .inl (zA mo_lengthOf))), ((aMo 13), .inl (ca 0, 20160, .inl (zA mo_laid_16))), ((aMo 3), .inl (ca 0, 11, .inl (zA mo_rules))), ((aMo 15), .inl (ca 0, 60, .inl (zA mo_runFrom_16))), ((aMo 16), .inl (ca 0, 60, .inl (zA mo_runTo_16))), ((aMo 25), .inl (ca 0, 12, .inl (zA mo_maybe_20))), ((aMo 26), .inl (ca 0, 62, .inl (zA mo_dayFrom_20))), ((aMo 27), .inl (ca 0, 62, .inl (zA mo_dayTo_20))), ((aMo 28), .inl (ca 0, 62, .inl (zA mo_dayRun_20))), ((aMo 29), .inl (ca 3, 62, .inl (zA mo_isLonger_20))), ((aMo 0), .inr (11, [.ref (aMo 1), .int (zI mo_taped), .ref (aMo 3), .ref (aMo 4), .ref (aMo 5), .ref (aMo 6), .ref (aMo 7), .ref (aMo 8), .ref (aMo 9), .ref (aMo 10), .ref (aMo 11), .ref (aMo 12), .ref (aMo 13), .ref (aMo 14), .ref (aMo 15), .ref (aMo 16), .int (zI mo_size_16), .int (zI mo_runs_16), .ref (aMo 19), .ref (aMo 20), .ref (aMo 21), .int (zI mo_found), .int (zI mo_counted), .int (zI mo_isParted), .ref (aMo 25), .ref (aMo 26), .ref (aMo 27), .ref (aMo 28), .ref (aMo 29), .int (zI mo_maybes_20), .int (zI mo_days_20), .int (zI mo_over2_20), .int (zI mo_longer_20), .ref (aMo 34)])), ((aMo 14), .inl (ca 0, 20161, .inl (zA mo_driven_16)))]) (st' := [.int (zI r_95)]) (kX11_driveIn l D ca aMo mo_taped mo_driven_16 mo_size_16 mo_runs_16 mo_found mo_counted mo_isParted mo_maybes_20 mo_days_20 mo_over2_20 mo_longer_20 (mo_dayFrom_20 v3.toNat) (mo_dayTo_20 v3.toNat) r_95 hc_95) wml_RX11_160 wim_X11_driveIn wse_X11_driveIn win_RX11 wco_X11_driveIn (nA := 2) rfl (by decide +kernel)  ⟨(Nat.le_of_ble_eq_true rfl), (Nat.le_of_ble_eq_true rfl)⟩ (Nat.le_refl _) (Nat.le_refl _) rfl (by decide) dX11_day_95 4 11 rfl rfl rfl [4, 6] [0, 1, 2, 3, 5, 7, 8, 9, 10, 11, 12, 13] rfl rfl rfl (by decide) (by decide) (by decide) rfl rfl (fun _ => rfl) rfl (fun _ => ?_)
              cases hf
              exact g_iret (pc := 98) C E (fun _ => 0) [12, 4, 0, 1, 2, 3, 13, 5, 6, 7, 8, 9, 10, 11] (by decide) rfl rfl (Nat.le_refl _) (Nat.le_refl _) dX11_day_98
            · rw [if_neg hc_35_2] at hf
              by_cases hc_35_3 : v4 = 3
              · rw [if_pos hc_35_3] at hf
                refine g_tabIn (pc := 35) C (tgt := 99) dX11_day_35 hx_35 hc_35_3 (by decide) (by decide) rfl (by decide) ?_
                refine g_aload_n (pc := 99) C 0 dX11_day_99 rfl rfl ?_
                refine g_get (pc := 100) C zf_X11_77 4 rfl rfl dX11_day_100 ?_
                refine g_iload_n (pc := 103) C 3 dX11_day_103 rfl rfl ?_
                refine g_zald (pc := 104) C (N := 62) 13 rfl rfl (Nat.le_of_ble_eq_true rfl) dX11_day_104 hf (fun hf => ?_)
                refine g_if_eq (pc := 105) C (tgt := 112) dX11_day_105 (by decide) hf (fun hf => ?_) (fun hf => ?_)
                · refine g_iconst (pc := 112) C dX11_day_112 ?_
                  cases hf
                  exact g_iret (pc := 113) C E (fun _ => 0) [4, 5, 0, 1, 2, 3, 6, 7, 8, 9, 10, 11, 12, 13] (by decide) rfl rfl (Nat.le_refl _) (Nat.le_refl _) dX11_day_113
                · refine g_iconst (pc := 108) C dX11_day_108 ?_
                  refine g_goto (pc := 109) C (tgt := 113) dX11_day_109 (by decide) ?_
                  cases hf
                  exact g_iret (pc := 113) C E (fun _ => 0) [4, 5, 0, 1, 2, 3, 6, 7, 8, 9, 10, 11, 12, 13] (by decide) rfl rfl (Nat.le_refl _) (Nat.le_refl _) dX11_day_113
              · rw [if_neg hc_35_3] at hf
                by_cases hc_35_4 : v4 = 4
                · rw [if_pos hc_35_4] at hf
                  refine g_tabIn (pc := 35) C (tgt := 114) dX11_day_35 hx_35 hc_35_4 (by decide) (by decide) rfl (by decide) ?_
                  refine g_aload_n (pc := 114) C 0 dX11_day_114 rfl rfl ?_
                  refine g_get (pc := 115) C zf_X11_74 4 rfl rfl dX11_day_115 ?_
                  refine g_iload_n (pc := 118) C 3 dX11_day_118 rfl rfl ?_
                  refine g_iald (pc := 119) C (N := 62) 12 rfl rfl (Nat.le_of_ble_eq_true rfl) dX11_day_119 hf (fun hf => ?_)
                  refine g_iconst (pc := 120) C dX11_day_120 ?_
                  refine g_icmp_ner (pc := 121) C (tgt := 128) dX11_day_121 (by decide) (by decide) hf (fun hf => ?_) (fun hf => ?_)
                  · refine g_aload_n (pc := 128) C 0 dX11_day_128 rfl rfl ?_
                    refine g_aload_n (pc := 129) C 0 dX11_day_129 rfl rfl ?_
                    refine g_get (pc := 130) C zf_X11_74 4 rfl rfl dX11_day_130 ?_
                    refine g_iload_n (pc := 133) C 3 dX11_day_133 rfl rfl ?_
                    refine g_iald (pc := 134) C (N := 62) 12 rfl rfl (Nat.le_of_ble_eq_true rfl) dX11_day_134 hf (fun hf => ?_)
                    obtain ⟨r_135, hc_135, hf⟩ := Option.bind_eq_some_iff.mp hf
                    refine g_callV (pc := 135) C hl0 (wr := [((aMo 5), .inl (ca 0, 4, .inl (zA mo_acts))), ((aMo 7), .inl (ca 0, 240, .inl (zA mo_kindOf))), ((aMo 8), .inl (ca 0, 240, .inl (zA mo_lengthOf))), ((aMo 13), .inl (ca 0, 20160, .inl (zA mo_laid_16))), ((aMo 3), .inl (ca 0, 11, .inl (zA mo_rules))), ((aMo 14), .inl (ca 0, 20161, .inl (zA mo_driven_16))), ((aMo 25), .inl (ca 0, 12, .inl (zA mo_maybe_20))), ((aMo 26), .inl (ca 0, 62, .inl (zA mo_dayFrom_20))), ((aMo 27), .inl (ca 0, 62, .inl (zA mo_dayTo_20))), ((aMo 28), .inl (ca 0, 62, .inl (zA mo_dayRun_20))), ((aMo 29), .inl (ca 3, 62, .inl (zA mo_isLonger_20)))]) (k' := 0) (n' := 0) (ws' := fun _ => [((aMo 5), .inl (ca 0, 4, .inl (zA mo_acts))), ((aMo 7), .inl (ca 0, 240, .inl (zA mo_kindOf))), ((aMo 8), .inl (ca 0, 240, .inl (zA mo_lengthOf))), ((aMo 13), .inl (ca 0, 20160, .inl (zA mo_laid_16))), ((aMo 3), .inl (ca 0, 11, .inl (zA mo_rules))), ((aMo 14), .inl (ca 0, 20161, .inl (zA mo_driven_16))), ((aMo 25), .inl (ca 0, 12, .inl (zA mo_maybe_20))), ((aMo 26), .inl (ca 0, 62, .inl (zA mo_dayFrom_20))), ((aMo 27), .inl (ca 0, 62, .inl (zA mo_dayTo_20))), ((aMo 28), .inl (ca 0, 62, .inl (zA mo_dayRun_20))), ((aMo 29), .inl (ca 3, 62, .inl (zA mo_isLonger_20))), ((aMo 0), .inr (11, [.ref (aMo 1), .int (zI mo_taped), .ref (aMo 3), .ref (aMo 4), .ref (aMo 5), .ref (aMo 6), .ref (aMo 7), .ref (aMo 8), .ref (aMo 9), .ref (aMo 10), .ref (aMo 11), .ref (aMo 12), .ref (aMo 13), .ref (aMo 14), .ref (aMo 15), .ref (aMo 16), .int (zI mo_size_16), .int (zI mo_runs_16), .ref (aMo 19), .ref (aMo 20), .ref (aMo 21), .int (zI mo_found), .int (zI mo_counted), .int (zI mo_isParted), .ref (aMo 25), .ref (aMo 26), .ref (aMo 27), .ref (aMo 28), .ref (aMo 29), .int (zI mo_maybes_20), .int (zI mo_days_20), .int (zI mo_over2_20), .int (zI mo_longer_20), .ref (aMo 34)])), ((aMo 15), .inl (ca 0, 60, .inl (zA mo_runFrom_16))), ((aMo 16), .inl (ca 0, 60, .inl (zA mo_runTo_16)))]) (st' := [.int (zI r_135)]) (kX11_runLength l D ca aMo mo_taped mo_runFrom_16 mo_runTo_16 mo_size_16 mo_runs_16 mo_found mo_counted mo_isParted mo_maybes_20 mo_days_20 mo_over2_20 mo_longer_20 (mo_dayRun_20 v3.toNat) r_135 hc_135) wml_RX11_141 wim_X11_runLength wse_X11_runLength win_RX11 wco_X11_runLength (nA := 1) rfl (by decide +kernel)  ⟨(Nat.le_of_ble_eq_true rfl), (Nat.le_of_ble_eq_true rfl)⟩ (Nat.le_refl _) (Nat.le_refl _) rfl (by decide) dX11_day_135 4 11 rfl rfl rfl [4, 7, 8] [0, 1, 2, 3, 5, 6, 9, 10, 11, 12, 13] rfl rfl rfl (by decide) (by decide) (by decide) rfl rfl (fun _ => rfl) rfl (fun _ => ?_)
                    refine g_aload_n (pc := 138) C 0 dX11_day_138 rfl rfl ?_
                    refine g_get (pc := 139) C zf_X11_13 11 rfl rfl dX11_day_139 ?_
                    refine g_bipush (pc := 142) C dX11_day_142 (by decide) ?_
                    refine g_ialdK (pc := 144) C 7 4 rfl rfl (Nat.le_of_ble_eq_true rfl) (Nat.le_of_ble_eq_true rfl) dX11_day_144 ?_
                    refine g_icmp_lt (pc := 145) C (tgt := 152) dX11_day_145 (by decide) hf (fun hf => ?_) (fun hf => ?_)
                    · refine g_iconst (pc := 152) C dX11_day_152 ?_
                      cases hf
                      exact g_iret (pc := 153) C E (fun _ => 0) [11, 4, 0, 1, 2, 3, 5, 12, 13, 6, 7, 8, 9, 10] (by decide) rfl rfl (Nat.le_refl _) (Nat.le_refl _) dX11_day_153
                    · refine g_iconst (pc := 148) C dX11_day_148 ?_
                      refine g_goto (pc := 149) C (tgt := 153) dX11_day_149 (by decide) ?_
                      cases hf
                      exact g_iret (pc := 153) C E (fun _ => 0) [11, 4, 0, 1, 2, 3, 5, 12, 13, 6, 7, 8, 9, 10] (by decide) rfl rfl (Nat.le_refl _) (Nat.le_refl _) dX11_day_153
                  · refine g_iconst (pc := 124) C dX11_day_124 ?_
                    refine g_goto (pc := 125) C (tgt := 153) dX11_day_125 (by decide) ?_
                    cases hf
                    exact g_iret (pc := 153) C E (fun _ => 0) [4, 5, 0, 1, 2, 3, 6, 7, 8, 9, 10, 11, 12, 13] (by decide) rfl rfl (Nat.le_refl _) (Nat.le_refl _) dX11_day_153
                · rw [if_neg hc_35_4] at hf
                  refine g_tabOut (pc := 35) C (tgt := 154) dX11_day_35 hx_35 (by omega) (by decide) ?_
                  refine g_iconst (pc := 154) C dX11_day_154 ?_
                  cases hf
                  exact g_iret (pc := 155) C E (fun _ => 0) [4, 5, 0, 1, 2, 3, 6, 7, 8, 9, 10, 11, 12, 13] (by decide) rfl rfl (Nat.le_refl _) (Nat.le_refl _) dX11_day_155
      · refine g_iconst (pc := 31) C dX11_day_31 ?_
        cases hf
        exact g_iret (pc := 32) C E (fun _ => 0) [4, 5, 0, 1, 2, 3, 6, 7, 8, 9, 10, 11, 12, 13] (by decide) rfl rfl (Nat.le_refl _) (Nat.le_refl _) dX11_day_32
    · refine g_sub [0, 1, 2, 3, 4, 5, 6, 7, 8, 9, 10, 11, 12, 13] [] (by decide) rfl rfl rfl ?_
      exact H11 _ _ _ _ _ _ _ _ _ _ _ _ _ _ _ hf
set_option maxRecDepth 100000 in
theorem kX11_types (l : Launch) (D : va_G) (ca : Nat → ClassId) (aMo : Nat → Nat) (mo_tape : Nat → Int) (mo_taped : Int) (mo_size : Int) (mo_runs : Int) (mo_found : Int) (mo_counted : Int) (mo_isParted : Int) (mo_maybes : Int) (mo_days : Int) (mo_over2 : Int) (mo_longer : Int) (v1 : Int) (mo_tape_o : Nat → Int) (mo_taped_o : Int)
    (hf : fX11_types v1 mo_tape mo_taped = some (mo_tape_o, mo_taped_o)) : Zc l D ca yX11_types cX11_types 3 none { frames := 0, cells := 0, slots := 0, locals := 0 } [.ref (aMo 0), .int (zI v1)] [((aMo 0), .inr (11, [.ref (aMo 1), .int (zI mo_taped), .ref (aMo 3), .ref (aMo 4), .ref (aMo 5), .ref (aMo 6), .ref (aMo 7), .ref (aMo 8), .ref (aMo 9), .ref (aMo 10), .ref (aMo 11), .ref (aMo 12), .ref (aMo 13), .ref (aMo 14), .ref (aMo 15), .ref (aMo 16), .int (zI mo_size), .int (zI mo_runs), .ref (aMo 19), .ref (aMo 20), .ref (aMo 21), .int (zI mo_found), .int (zI mo_counted), .int (zI mo_isParted), .ref (aMo 25), .ref (aMo 26), .ref (aMo 27), .ref (aMo 28), .ref (aMo 29), .int (zI mo_maybes), .int (zI mo_days), .int (zI mo_over2), .int (zI mo_longer), .ref (aMo 34)])), ((aMo 1), .inl (ca 1, 80, .inl (zA mo_tape)))] none (fun _ => [((aMo 0), .inr (11, [.ref (aMo 1), .int (zI mo_taped_o), .ref (aMo 3), .ref (aMo 4), .ref (aMo 5), .ref (aMo 6), .ref (aMo 7), .ref (aMo 8), .ref (aMo 9), .ref (aMo 10), .ref (aMo 11), .ref (aMo 12), .ref (aMo 13), .ref (aMo 14), .ref (aMo 15), .ref (aMo 16), .int (zI mo_size), .int (zI mo_runs), .ref (aMo 19), .ref (aMo 20), .ref (aMo 21), .int (zI mo_found), .int (zI mo_counted), .int (zI mo_isParted), .ref (aMo 25), .ref (aMo 26), .ref (aMo 27), .ref (aMo 28), .ref (aMo 29), .int (zI mo_maybes), .int (zI mo_days), .int (zI mo_over2), .int (zI mo_longer), .ref (aMo 34)])), ((aMo 1), .inl (ca 1, 80, .inl (zA mo_tape_o)))]) := by
  refine ctr_of (lv := [(0, .ref (aMo 0)), (1, .int (zI v1))]) (by decide +kernel) (Nat.le_of_ble_eq_true rfl) rfl (fun Γ hl0 C E hnm => ?_)
  have H2 : ∀  (n2 : Nat) (v2 : Int) (mo_tape : Nat → Int) (mo_taped : Int), zlp (fX11_types_2 v1) n2 (v2, mo_tape, mo_taped) = some (mo_tape_o, mo_taped_o) → Zd D Γ 0 0 [((aMo 0), .inr (11, [.ref (aMo 1), .int (zI mo_taped), .ref (aMo 3), .ref (aMo 4), .ref (aMo 5), .ref (aMo 6), .ref (aMo 7), .ref (aMo 8), .ref (aMo 9), .ref (aMo 10), .ref (aMo 11), .ref (aMo 12), .ref (aMo 13), .ref (aMo 14), .ref (aMo 15), .ref (aMo 16), .int (zI mo_size), .int (zI mo_runs), .ref (aMo 19), .ref (aMo 20), .ref (aMo 21), .int (zI mo_found), .int (zI mo_counted), .int (zI mo_isParted), .ref (aMo 25), .ref (aMo 26), .ref (aMo 27), .ref (aMo 28), .ref (aMo 29), .int (zI mo_maybes), .int (zI mo_days), .int (zI mo_over2), .int (zI mo_longer), .ref (aMo 34)])), ((aMo 1), .inl (ca 1, 80, .inl (zA mo_tape)))] 2 [(0, .ref (aMo 0)), (1, .int (zI v1)), (2, .int (zI v2))] [] := by
    intro n2
    induction n2 with
    | zero =>
      intro v2 mo_tape mo_taped hf
      exact zno hf
    | succ n2 ih2 =>
      intro v2 mo_tape mo_taped hf
      rw [zlp_s] at hf
      unfold fX11_types_2 at hf
      dsimp only at hf
      refine g_iload_n (pc := 2) C 2 dX11_types_2 rfl rfl ?_
      refine g_if_lt (pc := 3) C (tgt := 38) dX11_types_3 (by decide) hf (fun hf => ?_) (fun hf => ?_)
      · cases hf
        exact g_vret (pc := 38) C E (fun _ => 0) [0, 1] (by decide) rfl rfl (Nat.le_refl _) (Nat.le_refl _) dX11_types_38
      · refine g_aload_n (pc := 6) C 0 dX11_types_6 rfl rfl ?_
        refine g_get (pc := 7) C zf_X11_7 0 rfl rfl dX11_types_7 ?_
        refine g_aload_n (pc := 10) C 0 dX11_types_10 rfl rfl ?_
        refine g_get (pc := 11) C zf_X11_88 0 rfl rfl dX11_types_11 ?_
        refine g_iload_n (pc := 14) C 1 dX11_types_14 rfl rfl ?_
        refine g_bipush (pc := 15) C dX11_types_15 (by decide) ?_
        refine g_iload_n (pc := 17) C 2 dX11_types_17 rfl rfl ?_
        refine g_imul (pc := 18) C dX11_types_18 ?_
        refine g_ishr (pc := 19) C dX11_types_19 ?_
        refine g_i2b (pc := 20) C dX11_types_20 ?_
        refine g_bast (pc := 21) C (N := 80) (ws' := [((aMo 0), .inr (11, [.ref (aMo 1), .int (zI mo_taped), .ref (aMo 3), .ref (aMo 4), .ref (aMo 5), .ref (aMo 6), .ref (aMo 7), .ref (aMo 8), .ref (aMo 9), .ref (aMo 10), .ref (aMo 11), .ref (aMo 12), .ref (aMo 13), .ref (aMo 14), .ref (aMo 15), .ref (aMo 16), .int (zI mo_size), .int (zI mo_runs), .ref (aMo 19), .ref (aMo 20), .ref (aMo 21), .int (zI mo_found), .int (zI mo_counted), .int (zI mo_isParted), .ref (aMo 25), .ref (aMo 26), .ref (aMo 27), .ref (aMo 28), .ref (aMo 29), .int (zI mo_maybes), .int (zI mo_days), .int (zI mo_over2), .int (zI mo_longer), .ref (aMo 34)])), ((aMo 1), .inl (ca 1, 80, .inl (zA (zU mo_tape mo_taped.toNat (zi2b (zshr v1 (8 * v2)))))))]) 1 rfl rfl (Nat.le_of_ble_eq_true rfl) (zi2b_nar _) rfl dX11_types_21 hf (fun hf => ?_)
        refine g_aload_n (pc := 22) C 0 dX11_types_22 rfl rfl ?_
        refine g_aload_n (pc := 23) C 0 dX11_types_23 rfl rfl ?_
        refine g_get (pc := 24) C zf_X11_88 0 rfl rfl dX11_types_24 ?_
        refine g_iconst (pc := 27) C dX11_types_27 ?_
        refine g_iadd (pc := 28) C dX11_types_28 ?_
        refine g_put (pc := 29) C zf_X11_88 tyX11 tyX11_ok nmX11 (v := .int (zI (mo_taped + 1))) (ws' := [((aMo 0), .inr (11, [.ref (aMo 1), .int (zI (mo_taped + 1)), .ref (aMo 3), .ref (aMo 4), .ref (aMo 5), .ref (aMo 6), .ref (aMo 7), .ref (aMo 8), .ref (aMo 9), .ref (aMo 10), .ref (aMo 11), .ref (aMo 12), .ref (aMo 13), .ref (aMo 14), .ref (aMo 15), .ref (aMo 16), .int (zI mo_size), .int (zI mo_runs), .ref (aMo 19), .ref (aMo 20), .ref (aMo 21), .int (zI mo_found), .int (zI mo_counted), .int (zI mo_isParted), .ref (aMo 25), .ref (aMo 26), .ref (aMo 27), .ref (aMo 28), .ref (aMo 29), .int (zI mo_maybes), .int (zI mo_days), .int (zI mo_over2), .int (zI mo_longer), .ref (aMo 34)])), ((aMo 1), .inl (ca 1, 80, .inl (zA (zU mo_tape mo_taped.toNat (zi2b (zshr v1 (8 * v2)))))))]) 0 rfl rfl rfl rfl rfl (Nat.le_of_ble_eq_true rfl) rfl rfl dX11_types_29 ?_
        refine g_iinc (pc := 32) C 2 (lv' := [(2, .int (zI (v2 + (-1)))), (0, .ref (aMo 0)), (1, .int (zI v1))]) dX11_types_32 rfl (Nat.le_of_ble_eq_true rfl) rfl ?_
        refine g_goto (pc := 35) C (tgt := 2) dX11_types_35 (by decide) ?_
        refine g_sub [0, 1] [1, 2, 0] (by decide) rfl rfl rfl ?_
        exact ih2 _ _ _ hf
  unfold fX11_types at hf
  refine g_iconst (pc := 0) C dX11_types_0 ?_
  refine g_istore_n (pc := 1) C (lv' := [(2, .int (zI 3)), (0, .ref (aMo 0)), (1, .int (zI v1))]) dX11_types_1 rfl (Nat.le_of_ble_eq_true rfl) rfl ?_
  refine g_sub [0, 1] [1, 2, 0] (by decide) rfl rfl rfl ?_
  exact H2 _ _ _ _ hf
set_option maxRecDepth 100000 in
theorem kX11_feed (l : Launch) (D : va_G) (ca : Nat → ClassId) (aMo : Nat → Nat) (mo_tape : Nat → Int) (mo_taped : Int) (mo_size : Int) (mo_runs : Int) (mo_found : Int) (mo_counted : Int) (mo_isParted : Int) (mo_maybes : Int) (mo_days : Int) (mo_over2 : Int) (mo_longer : Int) (v1 : Int) (v2 : Int) (v3 : Int) (v4 : Int) (v5 : Int) (r_o : Int) (mo_tape_o : Nat → Int) (mo_taped_o : Int)
    (hf : fX11_feed v1 v2 v3 v4 v5 mo_tape mo_taped = some (r_o, mo_tape_o, mo_taped_o)) : Zc l D ca yX11_feed cX11_feed 6 (some .int) { frames := 1, cells := 0, slots := 0, locals := 22 } [.ref (aMo 0), .int (zI v1), .int (zI v2), .int (zI v3), .int (zI v4), .int (zI v5)] [((aMo 0), .inr (11, [.ref (aMo 1), .int (zI mo_taped), .ref (aMo 3), .ref (aMo 4), .ref (aMo 5), .ref (aMo 6), .ref (aMo 7), .ref (aMo 8), .ref (aMo 9), .ref (aMo 10), .ref (aMo 11), .ref (aMo 12), .ref (aMo 13), .ref (aMo 14), .ref (aMo 15), .ref (aMo 16), .int (zI mo_size), .int (zI mo_runs), .ref (aMo 19), .ref (aMo 20), .ref (aMo 21), .int (zI mo_found), .int (zI mo_counted), .int (zI mo_isParted), .ref (aMo 25), .ref (aMo 26), .ref (aMo 27), .ref (aMo 28), .ref (aMo 29), .int (zI mo_maybes), .int (zI mo_days), .int (zI mo_over2), .int (zI mo_longer), .ref (aMo 34)])), ((aMo 1), .inl (ca 1, 80, .inl (zA mo_tape)))] (some (.int (zI r_o))) (fun _ => [((aMo 0), .inr (11, [.ref (aMo 1), .int (zI mo_taped_o), .ref (aMo 3), .ref (aMo 4), .ref (aMo 5), .ref (aMo 6), .ref (aMo 7), .ref (aMo 8), .ref (aMo 9), .ref (aMo 10), .ref (aMo 11), .ref (aMo 12), .ref (aMo 13), .ref (aMo 14), .ref (aMo 15), .ref (aMo 16), .int (zI mo_size), .int (zI mo_runs), .ref (aMo 19), .ref (aMo 20), .ref (aMo 21), .int (zI mo_found), .int (zI mo_counted), .int (zI mo_isParted), .ref (aMo 25), .ref (aMo 26), .ref (aMo 27), .ref (aMo 28), .ref (aMo 29), .int (zI mo_maybes), .int (zI mo_days), .int (zI mo_over2), .int (zI mo_longer), .ref (aMo 34)])), ((aMo 1), .inl (ca 1, 80, .inl (zA mo_tape_o)))]) := by
  refine ctr_of (lv := [(0, .ref (aMo 0)), (1, .int (zI v1)), (2, .int (zI v2)), (3, .int (zI v3)), (4, .int (zI v4)), (5, .int (zI v5))]) (by decide +kernel) (Nat.le_of_ble_eq_true rfl) rfl (fun Γ hl0 C E hnm => ?_)
  unfold fX11_feed at hf
  refine g_aload_n (pc := 0) C 0 dX11_feed_0 rfl rfl ?_
  refine g_get (pc := 1) C zf_X11_88 0 rfl rfl dX11_feed_1 ?_
  refine g_bipush (pc := 4) C dX11_feed_4 (by decide) ?_
  refine g_iadd (pc := 6) C dX11_feed_6 ?_
  refine g_bipush (pc := 7) C dX11_feed_7 (by decide) ?_
  refine g_icmp_ler (pc := 9) C (tgt := 14) dX11_feed_9 (by decide) (by decide) hf (fun hf => ?_) (fun hf => ?_)
  · refine g_aload_n (pc := 14) C 0 dX11_feed_14 rfl rfl ?_
    refine g_iload_n (pc := 15) C 1 dX11_feed_15 rfl rfl ?_
    obtain ⟨⟨mo_tape_16, mo_taped_16⟩, hc_16, hf⟩ := Option.bind_eq_some_iff.mp hf
    dsimp only at hf
    refine g_callV (pc := 16) C hl0 (wr := []) (k' := 0) (n' := 0) (ws' := fun _ => [((aMo 0), .inr (11, [.ref (aMo 1), .int (zI mo_taped_16), .ref (aMo 3), .ref (aMo 4), .ref (aMo 5), .ref (aMo 6), .ref (aMo 7), .ref (aMo 8), .ref (aMo 9), .ref (aMo 10), .ref (aMo 11), .ref (aMo 12), .ref (aMo 13), .ref (aMo 14), .ref (aMo 15), .ref (aMo 16), .int (zI mo_size), .int (zI mo_runs), .ref (aMo 19), .ref (aMo 20), .ref (aMo 21), .int (zI mo_found), .int (zI mo_counted), .int (zI mo_isParted), .ref (aMo 25), .ref (aMo 26), .ref (aMo 27), .ref (aMo 28), .ref (aMo 29), .int (zI mo_maybes), .int (zI mo_days), .int (zI mo_over2), .int (zI mo_longer), .ref (aMo 34)])), ((aMo 1), .inl (ca 1, 80, .inl (zA mo_tape_16)))]) (st' := []) (kX11_types l D ca aMo mo_tape mo_taped mo_size mo_runs mo_found mo_counted mo_isParted mo_maybes mo_days mo_over2 mo_longer v1 mo_tape_16 mo_taped_16 hc_16) wml_RX11_92 wim_X11_types wse_X11_types win_RX11 wco_X11_types (nA := 1) rfl (by decide +kernel)  ⟨(Nat.le_of_ble_eq_true rfl), (Nat.le_of_ble_eq_true rfl)⟩ (Nat.le_refl _) (Nat.le_refl _) rfl (by decide) dX11_feed_16 0 11 rfl rfl rfl [0, 1] [] rfl rfl rfl (by decide) (by decide) (by decide) rfl rfl (fun _ => rfl) rfl (fun _ => ?_)
    refine g_aload_n (pc := 19) C 0 dX11_feed_19 rfl rfl ?_
    refine g_iload_n (pc := 20) C 2 dX11_feed_20 rfl rfl ?_
    obtain ⟨⟨mo_tape_21, mo_taped_21⟩, hc_21, hf⟩ := Option.bind_eq_some_iff.mp hf
    dsimp only at hf
    refine g_callV (pc := 21) C hl0 (wr := []) (k' := 0) (n' := 0) (ws' := fun _ => [((aMo 0), .inr (11, [.ref (aMo 1), .int (zI mo_taped_21), .ref (aMo 3), .ref (aMo 4), .ref (aMo 5), .ref (aMo 6), .ref (aMo 7), .ref (aMo 8), .ref (aMo 9), .ref (aMo 10), .ref (aMo 11), .ref (aMo 12), .ref (aMo 13), .ref (aMo 14), .ref (aMo 15), .ref (aMo 16), .int (zI mo_size), .int (zI mo_runs), .ref (aMo 19), .ref (aMo 20), .ref (aMo 21), .int (zI mo_found), .int (zI mo_counted), .int (zI mo_isParted), .ref (aMo 25), .ref (aMo 26), .ref (aMo 27), .ref (aMo 28), .ref (aMo 29), .int (zI mo_maybes), .int (zI mo_days), .int (zI mo_over2), .int (zI mo_longer), .ref (aMo 34)])), ((aMo 1), .inl (ca 1, 80, .inl (zA mo_tape_21)))]) (st' := []) (kX11_types l D ca aMo mo_tape_16 mo_taped_16 mo_size mo_runs mo_found mo_counted mo_isParted mo_maybes mo_days mo_over2 mo_longer v2 mo_tape_21 mo_taped_21 hc_21) wml_RX11_92 wim_X11_types wse_X11_types win_RX11 wco_X11_types (nA := 1) rfl (by decide +kernel)  ⟨(Nat.le_of_ble_eq_true rfl), (Nat.le_of_ble_eq_true rfl)⟩ (Nat.le_refl _) (Nat.le_refl _) rfl (by decide) dX11_feed_21 0 11 rfl rfl rfl [0, 1] [] rfl rfl rfl (by decide) (by decide) (by decide) rfl rfl (fun _ => rfl) rfl (fun _ => ?_)
    refine g_aload_n (pc := 24) C 0 dX11_feed_24 rfl rfl ?_
    refine g_iload_n (pc := 25) C 3 dX11_feed_25 rfl rfl ?_
    obtain ⟨⟨mo_tape_26, mo_taped_26⟩, hc_26, hf⟩ := Option.bind_eq_some_iff.mp hf
    dsimp only at hf
    refine g_callV (pc := 26) C hl0 (wr := []) (k' := 0) (n' := 0) (ws' := fun _ => [((aMo 0), .inr (11, [.ref (aMo 1), .int (zI mo_taped_26), .ref (aMo 3), .ref (aMo 4), .ref (aMo 5), .ref (aMo 6), .ref (aMo 7), .ref (aMo 8), .ref (aMo 9), .ref (aMo 10), .ref (aMo 11), .ref (aMo 12), .ref (aMo 13), .ref (aMo 14), .ref (aMo 15), .ref (aMo 16), .int (zI mo_size), .int (zI mo_runs), .ref (aMo 19), .ref (aMo 20), .ref (aMo 21), .int (zI mo_found), .int (zI mo_counted), .int (zI mo_isParted), .ref (aMo 25), .ref (aMo 26), .ref (aMo 27), .ref (aMo 28), .ref (aMo 29), .int (zI mo_maybes), .int (zI mo_days), .int (zI mo_over2), .int (zI mo_longer), .ref (aMo 34)])), ((aMo 1), .inl (ca 1, 80, .inl (zA mo_tape_26)))]) (st' := []) (kX11_types l D ca aMo mo_tape_21 mo_taped_21 mo_size mo_runs mo_found mo_counted mo_isParted mo_maybes mo_days mo_over2 mo_longer v3 mo_tape_26 mo_taped_26 hc_26) wml_RX11_92 wim_X11_types wse_X11_types win_RX11 wco_X11_types (nA := 1) rfl (by decide +kernel)  ⟨(Nat.le_of_ble_eq_true rfl), (Nat.le_of_ble_eq_true rfl)⟩ (Nat.le_refl _) (Nat.le_refl _) rfl (by decide) dX11_feed_26 0 11 rfl rfl rfl [0, 1] [] rfl rfl rfl (by decide) (by decide) (by decide) rfl rfl (fun _ => rfl) rfl (fun _ => ?_)
    refine g_aload_n (pc := 29) C 0 dX11_feed_29 rfl rfl ?_
    refine g_iload (pc := 30) C 4 dX11_feed_30 rfl ?_
    obtain ⟨⟨mo_tape_32, mo_taped_32⟩, hc_32, hf⟩ := Option.bind_eq_some_iff.mp hf
    dsimp only at hf
    refine g_callV (pc := 32) C hl0 (wr := []) (k' := 0) (n' := 0) (ws' := fun _ => [((aMo 0), .inr (11, [.ref (aMo 1), .int (zI mo_taped_32), .ref (aMo 3), .ref (aMo 4), .ref (aMo 5), .ref (aMo 6), .ref (aMo 7), .ref (aMo 8), .ref (aMo 9), .ref (aMo 10), .ref (aMo 11), .ref (aMo 12), .ref (aMo 13), .ref (aMo 14), .ref (aMo 15), .ref (aMo 16), .int (zI mo_size), .int (zI mo_runs), .ref (aMo 19), .ref (aMo 20), .ref (aMo 21), .int (zI mo_found), .int (zI mo_counted), .int (zI mo_isParted), .ref (aMo 25), .ref (aMo 26), .ref (aMo 27), .ref (aMo 28), .ref (aMo 29), .int (zI mo_maybes), .int (zI mo_days), .int (zI mo_over2), .int (zI mo_longer), .ref (aMo 34)])), ((aMo 1), .inl (ca 1, 80, .inl (zA mo_tape_32)))]) (st' := []) (kX11_types l D ca aMo mo_tape_26 mo_taped_26 mo_size mo_runs mo_found mo_counted mo_isParted mo_maybes mo_days mo_over2 mo_longer v4 mo_tape_32 mo_taped_32 hc_32) wml_RX11_92 wim_X11_types wse_X11_types win_RX11 wco_X11_types (nA := 1) rfl (by decide +kernel)  ⟨(Nat.le_of_ble_eq_true rfl), (Nat.le_of_ble_eq_true rfl)⟩ (Nat.le_refl _) (Nat.le_refl _) rfl (by decide) dX11_feed_32 0 11 rfl rfl rfl [0, 1] [] rfl rfl rfl (by decide) (by decide) (by decide) rfl rfl (fun _ => rfl) rfl (fun _ => ?_)
    refine g_aload_n (pc := 35) C 0 dX11_feed_35 rfl rfl ?_
    refine g_iload (pc := 36) C 5 dX11_feed_36 rfl ?_
    obtain ⟨⟨mo_tape_38, mo_taped_38⟩, hc_38, hf⟩ := Option.bind_eq_some_iff.mp hf
    dsimp only at hf
    refine g_callV (pc := 38) C hl0 (wr := []) (k' := 0) (n' := 0) (ws' := fun _ => [((aMo 0), .inr (11, [.ref (aMo 1), .int (zI mo_taped_38), .ref (aMo 3), .ref (aMo 4), .ref (aMo 5), .ref (aMo 6), .ref (aMo 7), .ref (aMo 8), .ref (aMo 9), .ref (aMo 10), .ref (aMo 11), .ref (aMo 12), .ref (aMo 13), .ref (aMo 14), .ref (aMo 15), .ref (aMo 16), .int (zI mo_size), .int (zI mo_runs), .ref (aMo 19), .ref (aMo 20), .ref (aMo 21), .int (zI mo_found), .int (zI mo_counted), .int (zI mo_isParted), .ref (aMo 25), .ref (aMo 26), .ref (aMo 27), .ref (aMo 28), .ref (aMo 29), .int (zI mo_maybes), .int (zI mo_days), .int (zI mo_over2), .int (zI mo_longer), .ref (aMo 34)])), ((aMo 1), .inl (ca 1, 80, .inl (zA mo_tape_38)))]) (st' := []) (kX11_types l D ca aMo mo_tape_32 mo_taped_32 mo_size mo_runs mo_found mo_counted mo_isParted mo_maybes mo_days mo_over2 mo_longer v5 mo_tape_38 mo_taped_38 hc_38) wml_RX11_92 wim_X11_types wse_X11_types win_RX11 wco_X11_types (nA := 1) rfl (by decide +kernel)  ⟨(Nat.le_of_ble_eq_true rfl), (Nat.le_of_ble_eq_true rfl)⟩ (Nat.le_refl _) (Nat.le_refl _) rfl (by decide) dX11_feed_38 0 11 rfl rfl rfl [0, 1] [] rfl rfl rfl (by decide) (by decide) (by decide) rfl rfl (fun _ => rfl) rfl (fun _ => ?_)
    refine g_aload_n (pc := 41) C 0 dX11_feed_41 rfl rfl ?_
    refine g_get (pc := 42) C zf_X11_88 0 rfl rfl dX11_feed_42 ?_
    cases hf
    exact g_iret (pc := 45) C E (fun _ => 0) [0, 1] (by decide) rfl rfl (Nat.le_refl _) (Nat.le_refl _) dX11_feed_45
  · refine g_iconst (pc := 12) C dX11_feed_12 ?_
    cases hf
    exact g_iret (pc := 13) C E (fun _ => 0) [0, 1] (by decide) rfl rfl (Nat.le_refl _) (Nat.le_refl _) dX11_feed_13
set_option maxRecDepth 100000 in
theorem kX11_greater (l : Launch) (D : va_G) (ca : Nat → ClassId)   (v0 : Int) (v1 : Int) (r_o : Int)
    (hf : fX11_greater v0 v1 = some r_o) : Zc l D ca yX11_greater cX11_greater 2 (some .int) { frames := 0, cells := 0, slots := 0, locals := 0 } [.int (zI v0), .int (zI v1)] [] (some (.int (zI r_o))) (fun _ => []) := by
  refine ctr_of (lv := [(0, .int (zI v0)), (1, .int (zI v1))]) (by decide +kernel) (Nat.le_of_ble_eq_true rfl) rfl (fun Γ hl0 C E hnm => ?_)
  unfold fX11_greater at hf
  refine g_iload_n (pc := 0) C 0 dX11_greater_0 rfl rfl ?_
  refine g_iload_n (pc := 1) C 1 dX11_greater_1 rfl rfl ?_
  refine g_icmp_le (pc := 2) C (tgt := 9) dX11_greater_2 (by decide) hf (fun hf => ?_) (fun hf => ?_)
  · refine g_iload_n (pc := 9) C 1 dX11_greater_9 rfl rfl ?_
    cases hf
    exact g_iret (pc := 10) C E (fun _ => 0) [] (by decide) rfl rfl (Nat.le_refl _) (Nat.le_refl _) dX11_greater_10
  · refine g_iload_n (pc := 5) C 0 dX11_greater_5 rfl rfl ?_
    refine g_goto (pc := 6) C (tgt := 10) dX11_greater_6 (by decide) ?_
    cases hf
    exact g_iret (pc := 10) C E (fun _ => 0) [] (by decide) rfl rfl (Nat.le_refl _) (Nat.le_refl _) dX11_greater_10
set_option maxRecDepth 100000 in
theorem kX11_isDigit (l : Launch) (D : va_G) (ca : Nat → ClassId) (aMo : Nat → Nat) (mo_tape : Nat → Int) (mo_taped : Int) (mo_size : Int) (mo_runs : Int) (mo_found : Int) (mo_counted : Int) (mo_isParted : Int) (mo_maybes : Int) (mo_days : Int) (mo_over2 : Int) (mo_longer : Int) (v1 : Int) (v2 : Int) (r_o : Int)
    (hf : fX11_isDigit v1 v2 mo_tape = some r_o) : Zc l D ca yX11_isDigit cX11_isDigit 3 (some .boolean) { frames := 0, cells := 0, slots := 0, locals := 0 } [.ref (aMo 0), .int (zI v1), .int (zI v2)] [((aMo 0), .inr (11, [.ref (aMo 1), .int (zI mo_taped), .ref (aMo 3), .ref (aMo 4), .ref (aMo 5), .ref (aMo 6), .ref (aMo 7), .ref (aMo 8), .ref (aMo 9), .ref (aMo 10), .ref (aMo 11), .ref (aMo 12), .ref (aMo 13), .ref (aMo 14), .ref (aMo 15), .ref (aMo 16), .int (zI mo_size), .int (zI mo_runs), .ref (aMo 19), .ref (aMo 20), .ref (aMo 21), .int (zI mo_found), .int (zI mo_counted), .int (zI mo_isParted), .ref (aMo 25), .ref (aMo 26), .ref (aMo 27), .ref (aMo 28), .ref (aMo 29), .int (zI mo_maybes), .int (zI mo_days), .int (zI mo_over2), .int (zI mo_longer), .ref (aMo 34)])), ((aMo 1), .inl (ca 1, 80, .inl (zA mo_tape)))] (some (.int (zI r_o))) (fun _ => [((aMo 0), .inr (11, [.ref (aMo 1), .int (zI mo_taped), .ref (aMo 3), .ref (aMo 4), .ref (aMo 5), .ref (aMo 6), .ref (aMo 7), .ref (aMo 8), .ref (aMo 9), .ref (aMo 10), .ref (aMo 11), .ref (aMo 12), .ref (aMo 13), .ref (aMo 14), .ref (aMo 15), .ref (aMo 16), .int (zI mo_size), .int (zI mo_runs), .ref (aMo 19), .ref (aMo 20), .ref (aMo 21), .int (zI mo_found), .int (zI mo_counted), .int (zI mo_isParted), .ref (aMo 25), .ref (aMo 26), .ref (aMo 27), .ref (aMo 28), .ref (aMo 29), .int (zI mo_maybes), .int (zI mo_days), .int (zI mo_over2), .int (zI mo_longer), .ref (aMo 34)])), ((aMo 1), .inl (ca 1, 80, .inl (zA mo_tape)))]) := by
  refine ctr_of (lv := [(0, .ref (aMo 0)), (1, .int (zI v1)), (2, .int (zI v2))]) (by decide +kernel) (Nat.le_of_ble_eq_true rfl) rfl (fun Γ hl0 C E hnm => ?_)
  have H31 : fX11_isDigit_31 = some r_o → Zd D Γ 0 0 [((aMo 0), .inr (11, [.ref (aMo 1), .int (zI mo_taped), .ref (aMo 3), .ref (aMo 4), .ref (aMo 5), .ref (aMo 6), .ref (aMo 7), .ref (aMo 8), .ref (aMo 9), .ref (aMo 10), .ref (aMo 11), .ref (aMo 12), .ref (aMo 13), .ref (aMo 14), .ref (aMo 15), .ref (aMo 16), .int (zI mo_size), .int (zI mo_runs), .ref (aMo 19), .ref (aMo 20), .ref (aMo 21), .int (zI mo_found), .int (zI mo_counted), .int (zI mo_isParted), .ref (aMo 25), .ref (aMo 26), .ref (aMo 27), .ref (aMo 28), .ref (aMo 29), .int (zI mo_maybes), .int (zI mo_days), .int (zI mo_over2), .int (zI mo_longer), .ref (aMo 34)])), ((aMo 1), .inl (ca 1, 80, .inl (zA mo_tape)))] 31 [] [] := by
    intro  hf
    unfold fX11_isDigit_31 at hf
    refine g_iconst (pc := 31) C dX11_isDigit_31 ?_
    cases hf
    exact g_zret (pc := 32) C E (by decide) (fun _ => 0) [0, 1] (by decide) rfl rfl (Nat.le_refl _) (Nat.le_refl _) dX11_isDigit_32
  unfold fX11_isDigit at hf
  refine g_iload_n (pc := 0) C 1 dX11_isDigit_0 rfl rfl ?_
  refine g_iload_n (pc := 1) C 2 dX11_isDigit_1 rfl rfl ?_
  refine g_icmp_ge (pc := 2) C (tgt := 31) dX11_isDigit_2 (by decide) hf (fun hf => ?_) (fun hf => ?_)
  · refine g_sub [0, 1] [] (by decide) rfl rfl rfl ?_
    exact H31  hf
  · refine g_aload_n (pc := 5) C 0 dX11_isDigit_5 rfl rfl ?_
    refine g_get (pc := 6) C zf_X11_7 0 rfl rfl dX11_isDigit_6 ?_
    refine g_iload_n (pc := 9) C 1 dX11_isDigit_9 rfl rfl ?_
    refine g_bald (pc := 10) C (N := 80) 1 rfl rfl (Nat.le_of_ble_eq_true rfl) dX11_isDigit_10 hf (fun hf => ?_)
    refine g_bipush (pc := 11) C dX11_isDigit_11 (by decide) ?_
    refine g_icmp_ltr (pc := 13) C (tgt := 31) dX11_isDigit_13 (by decide) (by decide) hf (fun hf => ?_) (fun hf => ?_)
    · refine g_sub [0, 1] [] (by decide) rfl rfl rfl ?_
      exact H31  hf
    · refine g_aload_n (pc := 16) C 0 dX11_isDigit_16 rfl rfl ?_
      refine g_get (pc := 17) C zf_X11_7 0 rfl rfl dX11_isDigit_17 ?_
      refine g_iload_n (pc := 20) C 1 dX11_isDigit_20 rfl rfl ?_
      refine g_bald (pc := 21) C (N := 80) 1 rfl rfl (Nat.le_of_ble_eq_true rfl) dX11_isDigit_21 hf (fun hf => ?_)
      refine g_bipush (pc := 22) C dX11_isDigit_22 (by decide) ?_
      refine g_icmp_gtr (pc := 24) C (tgt := 31) dX11_isDigit_24 (by decide) (by decide) hf (fun hf => ?_) (fun hf => ?_)
      · refine g_sub [0, 1] [] (by decide) rfl rfl rfl ?_
        exact H31  hf
      · refine g_iconst (pc := 27) C dX11_isDigit_27 ?_
        refine g_goto (pc := 28) C (tgt := 32) dX11_isDigit_28 (by decide) ?_
        cases hf
        exact g_zret (pc := 32) C E (by decide) (fun _ => 0) [0, 1] (by decide) rfl rfl (Nat.le_refl _) (Nat.le_refl _) dX11_isDigit_32
set_option maxRecDepth 100000 in
theorem kX11_letterOf (l : Launch) (D : va_G) (ca : Nat → ClassId)   (v0 : Int) (r_o : Int)
    (hf : fX11_letterOf v0 = some r_o) : Zc l D ca yX11_letterOf cX11_letterOf 1 (some .int) { frames := 0, cells := 0, slots := 0, locals := 0 } [.int (zI v0)] [] (some (.int (zI r_o))) (fun _ => []) := by
  refine ctr_of (lv := [(0, .int (zI v0))]) (by decide +kernel) (Nat.le_of_ble_eq_true rfl) rfl (fun Γ hl0 C E hnm => ?_)
  have H139 : fX11_letterOf_139 = some r_o → Zd D Γ 0 0 [] 139 [] [] := by
    intro  hf
    unfold fX11_letterOf_139 at hf
    refine g_iconst (pc := 139) C dX11_letterOf_139 ?_
    cases hf
    exact g_iret (pc := 140) C E (fun _ => 0) [] (by decide) rfl rfl (Nat.le_refl _) (Nat.le_refl _) dX11_letterOf_140
  unfold fX11_letterOf at hf
  refine g_iload_n (pc := 0) C 0 dX11_letterOf_0 rfl rfl ?_
  obtain ⟨hx_1, hf⟩ := zck hf
  by_cases hc_1_0 : v0 = 98
  · rw [if_pos hc_1_0] at hf
    refine g_tabIn (pc := 1) C (tgt := 114) dX11_letterOf_1 hx_1 hc_1_0 (by decide) (by decide) rfl (by decide) ?_
    refine g_iconst (pc := 114) C dX11_letterOf_114 ?_
    cases hf
    exact g_iret (pc := 115) C E (fun _ => 0) [] (by decide) rfl rfl (Nat.le_refl _) (Nat.le_refl _) dX11_letterOf_115
  · rw [if_neg hc_1_0] at hf
    by_cases hc_1_1 : v0 = 99
    · rw [if_pos hc_1_1] at hf
      refine g_tabIn (pc := 1) C (tgt := 112) dX11_letterOf_1 hx_1 hc_1_1 (by decide) (by decide) rfl (by decide) ?_
      refine g_iconst (pc := 112) C dX11_letterOf_112 ?_
      cases hf
      exact g_iret (pc := 113) C E (fun _ => 0) [] (by decide) rfl rfl (Nat.le_refl _) (Nat.le_refl _) dX11_letterOf_113
    · rw [if_neg hc_1_1] at hf
      by_cases hc_1_2 : v0 = 100
      · rw [if_pos hc_1_2] at hf
        refine g_tabIn (pc := 1) C (tgt := 120) dX11_letterOf_1 hx_1 hc_1_2 (by decide) (by decide) rfl (by decide) ?_
        refine g_iconst (pc := 120) C dX11_letterOf_120 ?_
        cases hf
        exact g_iret (pc := 121) C E (fun _ => 0) [] (by decide) rfl rfl (Nat.le_refl _) (Nat.le_refl _) dX11_letterOf_121
      · rw [if_neg hc_1_2] at hf
        by_cases hc_1_3 : v0 = 101
        · rw [if_pos hc_1_3] at hf
          refine g_tabIn (pc := 1) C (tgt := 122) dX11_letterOf_1 hx_1 hc_1_3 (by decide) (by decide) rfl (by decide) ?_
          refine g_iconst (pc := 122) C dX11_letterOf_122 ?_
          cases hf
          exact g_iret (pc := 123) C E (fun _ => 0) [] (by decide) rfl rfl (Nat.le_refl _) (Nat.le_refl _) dX11_letterOf_123
        · rw [if_neg hc_1_3] at hf
          by_cases hc_1_4 : v0 = 102
          · rw [if_pos hc_1_4] at hf
            refine g_tabIn (pc := 1) C (tgt := 139) dX11_letterOf_1 hx_1 hc_1_4 (by decide) (by decide) rfl (by decide) ?_
            refine g_sub [] [] (by decide) rfl rfl rfl ?_
            exact H139  hf
          · rw [if_neg hc_1_4] at hf
            by_cases hc_1_5 : v0 = 103
            · rw [if_pos hc_1_5] at hf
              refine g_tabIn (pc := 1) C (tgt := 139) dX11_letterOf_1 hx_1 hc_1_5 (by decide) (by decide) rfl (by decide) ?_
              refine g_sub [] [] (by decide) rfl rfl rfl ?_
              exact H139  hf
            · rw [if_neg hc_1_5] at hf
              by_cases hc_1_6 : v0 = 104
              · rw [if_pos hc_1_6] at hf
                refine g_tabIn (pc := 1) C (tgt := 139) dX11_letterOf_1 hx_1 hc_1_6 (by decide) (by decide) rfl (by decide) ?_
                refine g_sub [] [] (by decide) rfl rfl rfl ?_
                exact H139  hf
              · rw [if_neg hc_1_6] at hf
                by_cases hc_1_7 : v0 = 105
                · rw [if_pos hc_1_7] at hf
                  refine g_tabIn (pc := 1) C (tgt := 139) dX11_letterOf_1 hx_1 hc_1_7 (by decide) (by decide) rfl (by decide) ?_
                  refine g_sub [] [] (by decide) rfl rfl rfl ?_
                  exact H139  hf
                · rw [if_neg hc_1_7] at hf
                  by_cases hc_1_8 : v0 = 106
                  · rw [if_pos hc_1_8] at hf
                    refine g_tabIn (pc := 1) C (tgt := 139) dX11_letterOf_1 hx_1 hc_1_8 (by decide) (by decide) rfl (by decide) ?_
                    refine g_sub [] [] (by decide) rfl rfl rfl ?_
                    exact H139  hf
                  · rw [if_neg hc_1_8] at hf
                    by_cases hc_1_9 : v0 = 107
                    · rw [if_pos hc_1_9] at hf
                      refine g_tabIn (pc := 1) C (tgt := 139) dX11_letterOf_1 hx_1 hc_1_9 (by decide) (by decide) rfl (by decide) ?_
                      refine g_sub [] [] (by decide) rfl rfl rfl ?_
                      exact H139  hf
                    · rw [if_neg hc_1_9] at hf
                      by_cases hc_1_10 : v0 = 108
                      · rw [if_pos hc_1_10] at hf
                        refine g_tabIn (pc := 1) C (tgt := 139) dX11_letterOf_1 hx_1 hc_1_10 (by decide) (by decide) rfl (by decide) ?_
                        refine g_sub [] [] (by decide) rfl rfl rfl ?_
                        exact H139  hf
                      · rw [if_neg hc_1_10] at hf
                        by_cases hc_1_11 : v0 = 109
                        · rw [if_pos hc_1_11] at hf
                          refine g_tabIn (pc := 1) C (tgt := 139) dX11_letterOf_1 hx_1 hc_1_11 (by decide) (by decide) rfl (by decide) ?_
                          refine g_sub [] [] (by decide) rfl rfl rfl ?_
                          exact H139  hf
                        · rw [if_neg hc_1_11] at hf
                          by_cases hc_1_12 : v0 = 110
                          · rw [if_pos hc_1_12] at hf
                            refine g_tabIn (pc := 1) C (tgt := 139) dX11_letterOf_1 hx_1 hc_1_12 (by decide) (by decide) rfl (by decide) ?_
                            refine g_sub [] [] (by decide) rfl rfl rfl ?_
                            exact H139  hf
                          · rw [if_neg hc_1_12] at hf
                            by_cases hc_1_13 : v0 = 111
                            · rw [if_pos hc_1_13] at hf
                              refine g_tabIn (pc := 1) C (tgt := 139) dX11_letterOf_1 hx_1 hc_1_13 (by decide) (by decide) rfl (by decide) ?_
                              refine g_sub [] [] (by decide) rfl rfl rfl ?_
                              exact H139  hf
                            · rw [if_neg hc_1_13] at hf
                              by_cases hc_1_14 : v0 = 112
                              · rw [if_pos hc_1_14] at hf
                                refine g_tabIn (pc := 1) C (tgt := 139) dX11_letterOf_1 hx_1 hc_1_14 (by decide) (by decide) rfl (by decide) ?_
                                refine g_sub [] [] (by decide) rfl rfl rfl ?_
                                exact H139  hf
                              · rw [if_neg hc_1_14] at hf
                                by_cases hc_1_15 : v0 = 113
                                · rw [if_pos hc_1_15] at hf
                                  refine g_tabIn (pc := 1) C (tgt := 130) dX11_letterOf_1 hx_1 hc_1_15 (by decide) (by decide) rfl (by decide) ?_
                                  refine g_bipush (pc := 130) C dX11_letterOf_130 (by decide) ?_
                                  cases hf
                                  exact g_iret (pc := 132) C E (fun _ => 0) [] (by decide) rfl rfl (Nat.le_refl _) (Nat.le_refl _) dX11_letterOf_132
                                · rw [if_neg hc_1_15] at hf
                                  by_cases hc_1_16 : v0 = 114
                                  · rw [if_pos hc_1_16] at hf
                                    refine g_tabIn (pc := 1) C (tgt := 127) dX11_letterOf_1 hx_1 hc_1_16 (by decide) (by decide) rfl (by decide) ?_
                                    refine g_bipush (pc := 127) C dX11_letterOf_127 (by decide) ?_
                                    cases hf
                                    exact g_iret (pc := 129) C E (fun _ => 0) [] (by decide) rfl rfl (Nat.le_refl _) (Nat.le_refl _) dX11_letterOf_129
                                  · rw [if_neg hc_1_16] at hf
                                    by_cases hc_1_17 : v0 = 115
                                    · rw [if_pos hc_1_17] at hf
                                      refine g_tabIn (pc := 1) C (tgt := 116) dX11_letterOf_1 hx_1 hc_1_17 (by decide) (by decide) rfl (by decide) ?_
                                      refine g_iconst (pc := 116) C dX11_letterOf_116 ?_
                                      cases hf
                                      exact g_iret (pc := 117) C E (fun _ => 0) [] (by decide) rfl rfl (Nat.le_refl _) (Nat.le_refl _) dX11_letterOf_117
                                    · rw [if_neg hc_1_17] at hf
                                      by_cases hc_1_18 : v0 = 116
                                      · rw [if_pos hc_1_18] at hf
                                        refine g_tabIn (pc := 1) C (tgt := 118) dX11_letterOf_1 hx_1 hc_1_18 (by decide) (by decide) rfl (by decide) ?_
                                        refine g_iconst (pc := 118) C dX11_letterOf_118 ?_
                                        cases hf
                                        exact g_iret (pc := 119) C E (fun _ => 0) [] (by decide) rfl rfl (Nat.le_refl _) (Nat.le_refl _) dX11_letterOf_119
                                      · rw [if_neg hc_1_18] at hf
                                        by_cases hc_1_19 : v0 = 117
                                        · rw [if_pos hc_1_19] at hf
                                          refine g_tabIn (pc := 1) C (tgt := 139) dX11_letterOf_1 hx_1 hc_1_19 (by decide) (by decide) rfl (by decide) ?_
                                          refine g_sub [] [] (by decide) rfl rfl rfl ?_
                                          exact H139  hf
                                        · rw [if_neg hc_1_19] at hf
                                          by_cases hc_1_20 : v0 = 118
                                          · rw [if_pos hc_1_20] at hf
                                            refine g_tabIn (pc := 1) C (tgt := 139) dX11_letterOf_1 hx_1 hc_1_20 (by decide) (by decide) rfl (by decide) ?_
                                            refine g_sub [] [] (by decide) rfl rfl rfl ?_
                                            exact H139  hf
                                          · rw [if_neg hc_1_20] at hf
                                            by_cases hc_1_21 : v0 = 119
                                            · rw [if_pos hc_1_21] at hf
                                              refine g_tabIn (pc := 1) C (tgt := 136) dX11_letterOf_1 hx_1 hc_1_21 (by decide) (by decide) rfl (by decide) ?_
                                              refine g_bipush (pc := 136) C dX11_letterOf_136 (by decide) ?_
                                              cases hf
                                              exact g_iret (pc := 138) C E (fun _ => 0) [] (by decide) rfl rfl (Nat.le_refl _) (Nat.le_refl _) dX11_letterOf_138
                                            · rw [if_neg hc_1_21] at hf
                                              by_cases hc_1_22 : v0 = 120
                                              · rw [if_pos hc_1_22] at hf
                                                refine g_tabIn (pc := 1) C (tgt := 124) dX11_letterOf_1 hx_1 hc_1_22 (by decide) (by decide) rfl (by decide) ?_
                                                refine g_bipush (pc := 124) C dX11_letterOf_124 (by decide) ?_
                                                cases hf
                                                exact g_iret (pc := 126) C E (fun _ => 0) [] (by decide) rfl rfl (Nat.le_refl _) (Nat.le_refl _) dX11_letterOf_126
                                              · rw [if_neg hc_1_22] at hf
                                                by_cases hc_1_23 : v0 = 121
                                                · rw [if_pos hc_1_23] at hf
                                                  refine g_tabIn (pc := 1) C (tgt := 133) dX11_letterOf_1 hx_1 hc_1_23 (by decide) (by decide) rfl (by decide) ?_
                                                  refine g_bipush (pc := 133) C dX11_letterOf_133 (by decide) ?_
                                                  cases hf
                                                  exact g_iret (pc := 135) C E (fun _ => 0) [] (by decide) rfl rfl (Nat.le_refl _) (Nat.le_refl _) dX11_letterOf_135
                                                · rw [if_neg hc_1_23] at hf
                                                  refine g_tabOut (pc := 1) C (tgt := 139) dX11_letterOf_1 hx_1 (by omega) (by decide) ?_
                                                  refine g_sub [] [] (by decide) rfl rfl rfl ?_
                                                  exact H139  hf
set_option maxRecDepth 100000 in
theorem kX11_parse (l : Launch) (D : va_G) (ca : Nat → ClassId) (aMo : Nat → Nat) (mo_tape : Nat → Int) (mo_taped : Int) (mo_said : Nat → Int) (mo_size : Int) (mo_runs : Int) (mo_found : Int) (mo_counted : Int) (mo_isParted : Int) (mo_maybes : Int) (mo_days : Int) (mo_over2 : Int) (mo_longer : Int) (v1 : Int) (r_o : Int) (mo_said_o : Nat → Int)
    (hf : fX11_parse v1 mo_tape mo_said = some (r_o, mo_said_o)) : Zc l D ca yX11_parse cX11_parse 6 (some .int) { frames := 1, cells := 0, slots := 0, locals := 22 } [.ref (aMo 0), .int (zI v1)] [((aMo 0), .inr (11, [.ref (aMo 1), .int (zI mo_taped), .ref (aMo 3), .ref (aMo 4), .ref (aMo 5), .ref (aMo 6), .ref (aMo 7), .ref (aMo 8), .ref (aMo 9), .ref (aMo 10), .ref (aMo 11), .ref (aMo 12), .ref (aMo 13), .ref (aMo 14), .ref (aMo 15), .ref (aMo 16), .int (zI mo_size), .int (zI mo_runs), .ref (aMo 19), .ref (aMo 20), .ref (aMo 21), .int (zI mo_found), .int (zI mo_counted), .int (zI mo_isParted), .ref (aMo 25), .ref (aMo 26), .ref (aMo 27), .ref (aMo 28), .ref (aMo 29), .int (zI mo_maybes), .int (zI mo_days), .int (zI mo_over2), .int (zI mo_longer), .ref (aMo 34)])), ((aMo 1), .inl (ca 1, 80, .inl (zA mo_tape))), ((aMo 4), .inl (ca 0, 11, .inl (zA mo_said)))] (some (.int (zI r_o))) (fun _ => [((aMo 0), .inr (11, [.ref (aMo 1), .int (zI mo_taped), .ref (aMo 3), .ref (aMo 4), .ref (aMo 5), .ref (aMo 6), .ref (aMo 7), .ref (aMo 8), .ref (aMo 9), .ref (aMo 10), .ref (aMo 11), .ref (aMo 12), .ref (aMo 13), .ref (aMo 14), .ref (aMo 15), .ref (aMo 16), .int (zI mo_size), .int (zI mo_runs), .ref (aMo 19), .ref (aMo 20), .ref (aMo 21), .int (zI mo_found), .int (zI mo_counted), .int (zI mo_isParted), .ref (aMo 25), .ref (aMo 26), .ref (aMo 27), .ref (aMo 28), .ref (aMo 29), .int (zI mo_maybes), .int (zI mo_days), .int (zI mo_over2), .int (zI mo_longer), .ref (aMo 34)])), ((aMo 1), .inl (ca 1, 80, .inl (zA mo_tape))), ((aMo 4), .inl (ca 0, 11, .inl (zA mo_said_o)))]) := by
  refine ctr_of (lv := [(0, .ref (aMo 0)), (1, .int (zI v1))]) (by decide +kernel) (Nat.le_of_ble_eq_true rfl) rfl (fun Γ hl0 C E hnm => ?_)
  have H2 : ∀  (n2 : Nat) (v2 : Int) (mo_said : Nat → Int), zlp (fX11_parse_2 v1 mo_tape) n2 (v2, mo_said) = some (r_o, mo_said_o) → Zd D Γ 0 0 [((aMo 0), .inr (11, [.ref (aMo 1), .int (zI mo_taped), .ref (aMo 3), .ref (aMo 4), .ref (aMo 5), .ref (aMo 6), .ref (aMo 7), .ref (aMo 8), .ref (aMo 9), .ref (aMo 10), .ref (aMo 11), .ref (aMo 12), .ref (aMo 13), .ref (aMo 14), .ref (aMo 15), .ref (aMo 16), .int (zI mo_size), .int (zI mo_runs), .ref (aMo 19), .ref (aMo 20), .ref (aMo 21), .int (zI mo_found), .int (zI mo_counted), .int (zI mo_isParted), .ref (aMo 25), .ref (aMo 26), .ref (aMo 27), .ref (aMo 28), .ref (aMo 29), .int (zI mo_maybes), .int (zI mo_days), .int (zI mo_over2), .int (zI mo_longer), .ref (aMo 34)])), ((aMo 1), .inl (ca 1, 80, .inl (zA mo_tape))), ((aMo 4), .inl (ca 0, 11, .inl (zA mo_said)))] 2 [(0, .ref (aMo 0)), (1, .int (zI v1)), (2, .int (zI v2))] [] := by
    intro n2
    induction n2 with
    | zero =>
      intro v2 mo_said hf
      exact zno hf
    | succ n2 ih2 =>
      have H56 : ∀ (v3 : Int) (v4 : Int) (mo_said : Nat → Int) (n56 : Nat) (v2 : Int) (v5 : Int), zlp (fX11_parse_56 (zlp (fX11_parse_2 v1 mo_tape) n2) v1 v3 v4 mo_tape mo_said) n56 (v2, v5) = some (r_o, mo_said_o) → Zd D Γ 0 0 [((aMo 0), .inr (11, [.ref (aMo 1), .int (zI mo_taped), .ref (aMo 3), .ref (aMo 4), .ref (aMo 5), .ref (aMo 6), .ref (aMo 7), .ref (aMo 8), .ref (aMo 9), .ref (aMo 10), .ref (aMo 11), .ref (aMo 12), .ref (aMo 13), .ref (aMo 14), .ref (aMo 15), .ref (aMo 16), .int (zI mo_size), .int (zI mo_runs), .ref (aMo 19), .ref (aMo 20), .ref (aMo 21), .int (zI mo_found), .int (zI mo_counted), .int (zI mo_isParted), .ref (aMo 25), .ref (aMo 26), .ref (aMo 27), .ref (aMo 28), .ref (aMo 29), .int (zI mo_maybes), .int (zI mo_days), .int (zI mo_over2), .int (zI mo_longer), .ref (aMo 34)])), ((aMo 1), .inl (ca 1, 80, .inl (zA mo_tape))), ((aMo 4), .inl (ca 0, 11, .inl (zA mo_said)))] 56 [(0, .ref (aMo 0)), (1, .int (zI v1)), (2, .int (zI v2)), (3, .int (zI v3)), (4, .int (zI v4)), (5, .int (zI v5))] [] := by
        intro v3 v4 mo_said
        intro n56
        induction n56 with
        | zero =>
          intro v2 v5 hf
          exact zno hf
        | succ n56 ih56 =>
          intro v2 v5 hf
          rw [zlp_s] at hf
          unfold fX11_parse_56 at hf
          dsimp only at hf
          refine g_aload_n (pc := 56) C 0 dX11_parse_56 rfl rfl ?_
          refine g_iload_n (pc := 57) C 2 dX11_parse_57 rfl rfl ?_
          refine g_iload_n (pc := 58) C 1 dX11_parse_58 rfl rfl ?_
          obtain ⟨r_59, hc_59, hf⟩ := Option.bind_eq_some_iff.mp hf
          refine g_callV (pc := 59) C hl0 (wr := [((aMo 4), .inl (ca 0, 11, .inl (zA mo_said)))]) (k' := 0) (n' := 0) (ws' := fun _ => [((aMo 4), .inl (ca 0, 11, .inl (zA mo_said))), ((aMo 0), .inr (11, [.ref (aMo 1), .int (zI mo_taped), .ref (aMo 3), .ref (aMo 4), .ref (aMo 5), .ref (aMo 6), .ref (aMo 7), .ref (aMo 8), .ref (aMo 9), .ref (aMo 10), .ref (aMo 11), .ref (aMo 12), .ref (aMo 13), .ref (aMo 14), .ref (aMo 15), .ref (aMo 16), .int (zI mo_size), .int (zI mo_runs), .ref (aMo 19), .ref (aMo 20), .ref (aMo 21), .int (zI mo_found), .int (zI mo_counted), .int (zI mo_isParted), .ref (aMo 25), .ref (aMo 26), .ref (aMo 27), .ref (aMo 28), .ref (aMo 29), .int (zI mo_maybes), .int (zI mo_days), .int (zI mo_over2), .int (zI mo_longer), .ref (aMo 34)])), ((aMo 1), .inl (ca 1, 80, .inl (zA mo_tape)))]) (st' := [.int (zI r_59)]) (kX11_isDigit l D ca aMo mo_tape mo_taped mo_size mo_runs mo_found mo_counted mo_isParted mo_maybes mo_days mo_over2 mo_longer v2 v1 r_59 hc_59) wml_RX11_100 wim_X11_isDigit wse_X11_isDigit win_RX11 wco_X11_isDigit (nA := 2) rfl (by decide +kernel)  ⟨(Nat.le_of_ble_eq_true rfl), (Nat.le_of_ble_eq_true rfl)⟩ (Nat.le_refl _) (Nat.le_refl _) rfl (by decide) dX11_parse_59 0 11 rfl rfl rfl [0, 1] [2] rfl rfl rfl (by decide) (by decide) (by decide) rfl rfl (fun _ => rfl) rfl (fun _ => ?_)
          refine g_if_eq (pc := 62) C (tgt := 103) dX11_parse_62 (by decide) hf (fun hf => ?_) (fun hf => ?_)
          · refine g_iload_n (pc := 103) C 3 dX11_parse_103 rfl rfl ?_
            refine g_iload (pc := 104) C 5 dX11_parse_104 rfl ?_
            obtain ⟨r_106, hc_106, hf⟩ := Option.bind_eq_some_iff.mp hf
            refine g_callS (pc := 106) C hl0 (wr := [((aMo 4), .inl (ca 0, 11, .inl (zA mo_said))), ((aMo 0), .inr (11, [.ref (aMo 1), .int (zI mo_taped), .ref (aMo 3), .ref (aMo 4), .ref (aMo 5), .ref (aMo 6), .ref (aMo 7), .ref (aMo 8), .ref (aMo 9), .ref (aMo 10), .ref (aMo 11), .ref (aMo 12), .ref (aMo 13), .ref (aMo 14), .ref (aMo 15), .ref (aMo 16), .int (zI mo_size), .int (zI mo_runs), .ref (aMo 19), .ref (aMo 20), .ref (aMo 21), .int (zI mo_found), .int (zI mo_counted), .int (zI mo_isParted), .ref (aMo 25), .ref (aMo 26), .ref (aMo 27), .ref (aMo 28), .ref (aMo 29), .int (zI mo_maybes), .int (zI mo_days), .int (zI mo_over2), .int (zI mo_longer), .ref (aMo 34)])), ((aMo 1), .inl (ca 1, 80, .inl (zA mo_tape)))]) (k' := 0) (n' := 0) (ws' := fun _ => [((aMo 4), .inl (ca 0, 11, .inl (zA mo_said))), ((aMo 0), .inr (11, [.ref (aMo 1), .int (zI mo_taped), .ref (aMo 3), .ref (aMo 4), .ref (aMo 5), .ref (aMo 6), .ref (aMo 7), .ref (aMo 8), .ref (aMo 9), .ref (aMo 10), .ref (aMo 11), .ref (aMo 12), .ref (aMo 13), .ref (aMo 14), .ref (aMo 15), .ref (aMo 16), .int (zI mo_size), .int (zI mo_runs), .ref (aMo 19), .ref (aMo 20), .ref (aMo 21), .int (zI mo_found), .int (zI mo_counted), .int (zI mo_isParted), .ref (aMo 25), .ref (aMo 26), .ref (aMo 27), .ref (aMo 28), .ref (aMo 29), .int (zI mo_maybes), .int (zI mo_days), .int (zI mo_over2), .int (zI mo_longer), .ref (aMo 34)])), ((aMo 1), .inl (ca 1, 80, .inl (zA mo_tape)))]) (st' := [.int (zI r_106)]) (kX11_canBe l D ca v3 v5 r_106 hc_106) wml_RX11_104 wst_X11_canBe win_RX11 wco_X11_canBe (nA := 2) rfl (by decide +kernel)  ⟨(Nat.le_of_ble_eq_true rfl), (Nat.le_of_ble_eq_true rfl)⟩ (Nat.le_refl _) (Nat.le_refl _) rfl (by decide) dX11_parse_106 [] [0, 1, 2] rfl rfl rfl (by decide) (by decide) (by decide) rfl rfl (fun _ => rfl) rfl (fun _ => ?_)
            refine g_if_ne (pc := 109) C (tgt := 119) dX11_parse_109 (by decide) hf (fun hf => ?_) (fun hf => ?_)
            · refine g_aload_n (pc := 119) C 0 dX11_parse_119 rfl rfl ?_
              refine g_get (pc := 120) C zf_X11_17 1 rfl rfl dX11_parse_120 ?_
              refine g_iload_n (pc := 123) C 3 dX11_parse_123 rfl rfl ?_
              refine g_iload (pc := 124) C 5 dX11_parse_124 rfl ?_
              refine g_iast (pc := 126) C (N := 11) (ws' := [((aMo 4), .inl (ca 0, 11, .inl (zA (zU mo_said v3.toNat v5)))), ((aMo 0), .inr (11, [.ref (aMo 1), .int (zI mo_taped), .ref (aMo 3), .ref (aMo 4), .ref (aMo 5), .ref (aMo 6), .ref (aMo 7), .ref (aMo 8), .ref (aMo 9), .ref (aMo 10), .ref (aMo 11), .ref (aMo 12), .ref (aMo 13), .ref (aMo 14), .ref (aMo 15), .ref (aMo 16), .int (zI mo_size), .int (zI mo_runs), .ref (aMo 19), .ref (aMo 20), .ref (aMo 21), .int (zI mo_found), .int (zI mo_counted), .int (zI mo_isParted), .ref (aMo 25), .ref (aMo 26), .ref (aMo 27), .ref (aMo 28), .ref (aMo 29), .int (zI mo_maybes), .int (zI mo_days), .int (zI mo_over2), .int (zI mo_longer), .ref (aMo 34)])), ((aMo 1), .inl (ca 1, 80, .inl (zA mo_tape)))]) 0 rfl rfl (Nat.le_of_ble_eq_true rfl) rfl dX11_parse_126 hf (fun hf => ?_)
              refine g_iload_n (pc := 127) C 2 dX11_parse_127 rfl rfl ?_
              refine g_iload_n (pc := 128) C 1 dX11_parse_128 rfl rfl ?_
              refine g_icmp_ne (pc := 129) C (tgt := 134) dX11_parse_129 (by decide) hf (fun hf => ?_) (fun hf => ?_)
              · refine g_aload_n (pc := 134) C 0 dX11_parse_134 rfl rfl ?_
                refine g_get (pc := 135) C zf_X11_7 1 rfl rfl dX11_parse_135 ?_
                refine g_iload_n (pc := 138) C 2 dX11_parse_138 rfl rfl ?_
                refine g_bald (pc := 139) C (N := 80) 2 rfl rfl (Nat.le_of_ble_eq_true rfl) dX11_parse_139 hf (fun hf => ?_)
                refine g_bipush (pc := 140) C dX11_parse_140 (by decide) ?_
                refine g_icmp_eqr (pc := 142) C (tgt := 151) dX11_parse_142 (by decide) (by decide) hf (fun hf => ?_) (fun hf => ?_)
                · refine g_iload_n (pc := 151) C 2 dX11_parse_151 rfl rfl ?_
                  refine g_iconst (pc := 152) C dX11_parse_152 ?_
                  refine g_iadd (pc := 153) C dX11_parse_153 ?_
                  refine g_istore_n (pc := 154) C (lv' := [(2, .int (zI (v2 + 1))), (0, .ref (aMo 0)), (1, .int (zI v1)), (3, .int (zI v3)), (4, .int (zI v4)), (5, .int (zI v5))]) dX11_parse_154 rfl (Nat.le_of_ble_eq_true rfl) rfl ?_
                  refine g_goto (pc := 155) C (tgt := 2) dX11_parse_155 (by decide) ?_
                  refine g_sub [1, 2, 0] [1, 2, 0] (by decide) rfl rfl rfl ?_
                  exact ih2 _ _ hf
                · refine g_sipush (pc := 145) C dX11_parse_145 (by decide) ?_
                  refine g_iload_n (pc := 148) C 2 dX11_parse_148 rfl rfl ?_
                  refine g_iadd (pc := 149) C dX11_parse_149 ?_
                  cases hf
                  exact g_iret (pc := 150) C E (fun _ => 0) [1, 2, 0] (by decide) rfl rfl (Nat.le_refl _) (Nat.le_refl _) dX11_parse_150
              · refine g_iconst (pc := 132) C dX11_parse_132 ?_
                cases hf
                exact g_iret (pc := 133) C E (fun _ => 0) [1, 2, 0] (by decide) rfl rfl (Nat.le_refl _) (Nat.le_refl _) dX11_parse_133
            · refine g_sipush (pc := 112) C dX11_parse_112 (by decide) ?_
              refine g_iload (pc := 115) C 4 dX11_parse_115 rfl ?_
              refine g_iadd (pc := 117) C dX11_parse_117 ?_
              cases hf
              exact g_iret (pc := 118) C E (fun _ => 0) [1, 2, 0] (by decide) rfl rfl (Nat.le_refl _) (Nat.le_refl _) dX11_parse_118
          · refine g_iload_n (pc := 65) C 2 dX11_parse_65 rfl rfl ?_
            refine g_iload (pc := 66) C 4 dX11_parse_66 rfl ?_
            refine g_iconst (pc := 68) C dX11_parse_68 ?_
            refine g_iadd (pc := 69) C dX11_parse_69 ?_
            refine g_icmp_ne (pc := 70) C (tgt := 79) dX11_parse_70 (by decide) hf (fun hf => ?_) (fun hf => ?_)
            · refine g_bipush (pc := 79) C dX11_parse_79 (by decide) ?_
              refine g_iload (pc := 81) C 5 dX11_parse_81 rfl ?_
              refine g_imul (pc := 83) C dX11_parse_83 ?_
              refine g_aload_n (pc := 84) C 0 dX11_parse_84 rfl rfl ?_
              refine g_get (pc := 85) C zf_X11_7 1 rfl rfl dX11_parse_85 ?_
              refine g_iload_n (pc := 88) C 2 dX11_parse_88 rfl rfl ?_
              refine g_bald (pc := 89) C (N := 80) 2 rfl rfl (Nat.le_of_ble_eq_true rfl) dX11_parse_89 hf (fun hf => ?_)
              refine g_iadd (pc := 90) C dX11_parse_90 ?_
              refine g_bipush (pc := 91) C dX11_parse_91 (by decide) ?_
              refine g_isub (pc := 93) C dX11_parse_93 ?_
              refine g_istore (pc := 94) C (lv' := [(5, .int (zI (((10 * v5) + (mo_tape v2.toNat)) - 48))), (0, .ref (aMo 0)), (1, .int (zI v1)), (2, .int (zI v2)), (3, .int (zI v3)), (4, .int (zI v4))]) dX11_parse_94 (Nat.le_of_ble_eq_true rfl) rfl ?_
              refine g_iload_n (pc := 96) C 3 dX11_parse_96 rfl rfl ?_
              refine g_iconst (pc := 97) C dX11_parse_97 ?_
              refine g_iadd (pc := 98) C dX11_parse_98 ?_
              refine g_istore_n (pc := 99) C (lv' := [(2, .int (zI (v2 + 1))), (5, .int (zI (((10 * v5) + (mo_tape v2.toNat)) - 48))), (0, .ref (aMo 0)), (1, .int (zI v1)), (3, .int (zI v3)), (4, .int (zI v4))]) dX11_parse_99 rfl (Nat.le_of_ble_eq_true rfl) rfl ?_
              refine g_goto (pc := 100) C (tgt := 56) dX11_parse_100 (by decide) ?_
              refine g_sub [1, 2, 0] [2, 3, 0, 4, 5, 1] (by decide) rfl rfl rfl ?_
              exact ih56 _ _ hf
            · refine g_sipush (pc := 73) C dX11_parse_73 (by decide) ?_
              refine g_iload_n (pc := 76) C 2 dX11_parse_76 rfl rfl ?_
              refine g_iadd (pc := 77) C dX11_parse_77 ?_
              cases hf
              exact g_iret (pc := 78) C E (fun _ => 0) [1, 2, 0] (by decide) rfl rfl (Nat.le_refl _) (Nat.le_refl _) dX11_parse_78
      have H20 : ∀ (v2 : Int) (s0 : Int) (mo_said : Nat → Int), fX11_parse_20 (zlp (fX11_parse_2 v1 mo_tape) n2) v1 v2 s0 mo_tape mo_said = some (r_o, mo_said_o) → Zd D Γ 0 0 [((aMo 0), .inr (11, [.ref (aMo 1), .int (zI mo_taped), .ref (aMo 3), .ref (aMo 4), .ref (aMo 5), .ref (aMo 6), .ref (aMo 7), .ref (aMo 8), .ref (aMo 9), .ref (aMo 10), .ref (aMo 11), .ref (aMo 12), .ref (aMo 13), .ref (aMo 14), .ref (aMo 15), .ref (aMo 16), .int (zI mo_size), .int (zI mo_runs), .ref (aMo 19), .ref (aMo 20), .ref (aMo 21), .int (zI mo_found), .int (zI mo_counted), .int (zI mo_isParted), .ref (aMo 25), .ref (aMo 26), .ref (aMo 27), .ref (aMo 28), .ref (aMo 29), .int (zI mo_maybes), .int (zI mo_days), .int (zI mo_over2), .int (zI mo_longer), .ref (aMo 34)])), ((aMo 1), .inl (ca 1, 80, .inl (zA mo_tape))), ((aMo 4), .inl (ca 0, 11, .inl (zA mo_said)))] 20 [(0, .ref (aMo 0)), (1, .int (zI v1)), (2, .int (zI v2))] [.int (zI s0)] := by
        intro v2 s0 mo_said hf
        unfold fX11_parse_20 at hf
        refine g_istore_n (pc := 20) C (lv' := [(3, .int (zI s0)), (0, .ref (aMo 0)), (1, .int (zI v1)), (2, .int (zI v2))]) dX11_parse_20 rfl (Nat.le_of_ble_eq_true rfl) rfl ?_
        refine g_iload_n (pc := 21) C 0 dX11_parse_21 rfl rfl ?_
        refine g_iconst (pc := 22) C dX11_parse_22 ?_
        refine g_icmp_ner (pc := 23) C (tgt := 31) dX11_parse_23 (by decide) (by decide) hf (fun hf => ?_) (fun hf => ?_)
        · refine g_iload_n (pc := 31) C 3 dX11_parse_31 rfl rfl ?_
          refine g_iconst (pc := 32) C dX11_parse_32 ?_
          refine g_iadd (pc := 33) C dX11_parse_33 ?_
          refine g_istore_n (pc := 34) C (lv' := [(2, .int (zI (v2 + 1))), (3, .int (zI s0)), (0, .ref (aMo 0)), (1, .int (zI v1))]) dX11_parse_34 rfl (Nat.le_of_ble_eq_true rfl) rfl ?_
          refine g_iload_n (pc := 35) C 0 dX11_parse_35 rfl rfl ?_
          refine g_istore (pc := 36) C (lv' := [(4, .int (zI (v2 + 1))), (2, .int (zI (v2 + 1))), (3, .int (zI s0)), (0, .ref (aMo 0)), (1, .int (zI v1))]) dX11_parse_36 (Nat.le_of_ble_eq_true rfl) rfl ?_
          refine g_aload_n (pc := 38) C 3 dX11_parse_38 rfl rfl ?_
          refine g_iload_n (pc := 39) C 1 dX11_parse_39 rfl rfl ?_
          refine g_iload_n (pc := 40) C 4 dX11_parse_40 rfl rfl ?_
          obtain ⟨r_41, hc_41, hf⟩ := Option.bind_eq_some_iff.mp hf
          refine g_callV (pc := 41) C hl0 (wr := [((aMo 4), .inl (ca 0, 11, .inl (zA mo_said)))]) (k' := 0) (n' := 0) (ws' := fun _ => [((aMo 4), .inl (ca 0, 11, .inl (zA mo_said))), ((aMo 0), .inr (11, [.ref (aMo 1), .int (zI mo_taped), .ref (aMo 3), .ref (aMo 4), .ref (aMo 5), .ref (aMo 6), .ref (aMo 7), .ref (aMo 8), .ref (aMo 9), .ref (aMo 10), .ref (aMo 11), .ref (aMo 12), .ref (aMo 13), .ref (aMo 14), .ref (aMo 15), .ref (aMo 16), .int (zI mo_size), .int (zI mo_runs), .ref (aMo 19), .ref (aMo 20), .ref (aMo 21), .int (zI mo_found), .int (zI mo_counted), .int (zI mo_isParted), .ref (aMo 25), .ref (aMo 26), .ref (aMo 27), .ref (aMo 28), .ref (aMo 29), .int (zI mo_maybes), .int (zI mo_days), .int (zI mo_over2), .int (zI mo_longer), .ref (aMo 34)])), ((aMo 1), .inl (ca 1, 80, .inl (zA mo_tape)))]) (st' := [.int (zI r_41)]) (kX11_isDigit l D ca aMo mo_tape mo_taped mo_size mo_runs mo_found mo_counted mo_isParted mo_maybes mo_days mo_over2 mo_longer (v2 + 1) v1 r_41 hc_41) wml_RX11_100 wim_X11_isDigit wse_X11_isDigit win_RX11 wco_X11_isDigit (nA := 2) rfl (by decide +kernel)  ⟨(Nat.le_of_ble_eq_true rfl), (Nat.le_of_ble_eq_true rfl)⟩ (Nat.le_refl _) (Nat.le_refl _) rfl (by decide) dX11_parse_41 0 11 rfl rfl rfl [0, 1] [2] rfl rfl rfl (by decide) (by decide) (by decide) rfl rfl (fun _ => rfl) rfl (fun _ => ?_)
          refine g_if_ne (pc := 44) C (tgt := 53) dX11_parse_44 (by decide) hf (fun hf => ?_) (fun hf => ?_)
          · refine g_iconst (pc := 53) C dX11_parse_53 ?_
            refine g_istore (pc := 54) C (lv' := [(5, .int (zI 0)), (4, .int (zI (v2 + 1))), (2, .int (zI (v2 + 1))), (3, .int (zI s0)), (0, .ref (aMo 0)), (1, .int (zI v1))]) dX11_parse_54 (Nat.le_of_ble_eq_true rfl) rfl ?_
            refine g_sub [1, 2, 0] [4, 5, 2, 3, 1, 0] (by decide) rfl rfl rfl ?_
            exact H56 _ _ _ _ _ _ hf
          · refine g_sipush (pc := 47) C dX11_parse_47 (by decide) ?_
            refine g_iload_n (pc := 50) C 1 dX11_parse_50 rfl rfl ?_
            refine g_iadd (pc := 51) C dX11_parse_51 ?_
            cases hf
            exact g_iret (pc := 52) C E (fun _ => 0) [1, 2, 0] (by decide) rfl rfl (Nat.le_refl _) (Nat.le_refl _) dX11_parse_52
        · refine g_bipush (pc := 26) C dX11_parse_26 (by decide) ?_
          refine g_iload_n (pc := 28) C 3 dX11_parse_28 rfl rfl ?_
          refine g_iadd (pc := 29) C dX11_parse_29 ?_
          cases hf
          exact g_iret (pc := 30) C E (fun _ => 0) [0, 1, 2] (by decide) rfl rfl (Nat.le_refl _) (Nat.le_refl _) dX11_parse_30
      intro v2 mo_said hf
      rw [zlp_s] at hf
      unfold fX11_parse_2 at hf
      dsimp only at hf
      refine g_iload_n (pc := 2) C 2 dX11_parse_2 rfl rfl ?_
      refine g_iload_n (pc := 3) C 1 dX11_parse_3 rfl rfl ?_
      refine g_icmp_ge (pc := 4) C (tgt := 19) dX11_parse_4 (by decide) hf (fun hf => ?_) (fun hf => ?_)
      · refine g_iconst (pc := 19) C dX11_parse_19 ?_
        exact H20 _ _ _ hf
      · refine g_aload_n (pc := 7) C 0 dX11_parse_7 rfl rfl ?_
        refine g_get (pc := 8) C zf_X11_7 0 rfl rfl dX11_parse_8 ?_
        refine g_iload_n (pc := 11) C 2 dX11_parse_11 rfl rfl ?_
        refine g_bald (pc := 12) C (N := 80) 1 rfl rfl (Nat.le_of_ble_eq_true rfl) dX11_parse_12 hf (fun hf => ?_)
        obtain ⟨r_13, hc_13, hf⟩ := Option.bind_eq_some_iff.mp hf
        refine g_callS (pc := 13) C hl0 (wr := [((aMo 0), .inr (11, [.ref (aMo 1), .int (zI mo_taped), .ref (aMo 3), .ref (aMo 4), .ref (aMo 5), .ref (aMo 6), .ref (aMo 7), .ref (aMo 8), .ref (aMo 9), .ref (aMo 10), .ref (aMo 11), .ref (aMo 12), .ref (aMo 13), .ref (aMo 14), .ref (aMo 15), .ref (aMo 16), .int (zI mo_size), .int (zI mo_runs), .ref (aMo 19), .ref (aMo 20), .ref (aMo 21), .int (zI mo_found), .int (zI mo_counted), .int (zI mo_isParted), .ref (aMo 25), .ref (aMo 26), .ref (aMo 27), .ref (aMo 28), .ref (aMo 29), .int (zI mo_maybes), .int (zI mo_days), .int (zI mo_over2), .int (zI mo_longer), .ref (aMo 34)])), ((aMo 1), .inl (ca 1, 80, .inl (zA mo_tape))), ((aMo 4), .inl (ca 0, 11, .inl (zA mo_said)))]) (k' := 0) (n' := 0) (ws' := fun _ => [((aMo 0), .inr (11, [.ref (aMo 1), .int (zI mo_taped), .ref (aMo 3), .ref (aMo 4), .ref (aMo 5), .ref (aMo 6), .ref (aMo 7), .ref (aMo 8), .ref (aMo 9), .ref (aMo 10), .ref (aMo 11), .ref (aMo 12), .ref (aMo 13), .ref (aMo 14), .ref (aMo 15), .ref (aMo 16), .int (zI mo_size), .int (zI mo_runs), .ref (aMo 19), .ref (aMo 20), .ref (aMo 21), .int (zI mo_found), .int (zI mo_counted), .int (zI mo_isParted), .ref (aMo 25), .ref (aMo 26), .ref (aMo 27), .ref (aMo 28), .ref (aMo 29), .int (zI mo_maybes), .int (zI mo_days), .int (zI mo_over2), .int (zI mo_longer), .ref (aMo 34)])), ((aMo 1), .inl (ca 1, 80, .inl (zA mo_tape))), ((aMo 4), .inl (ca 0, 11, .inl (zA mo_said)))]) (st' := [.int (zI r_13)]) (kX11_letterOf l D ca (mo_tape v2.toNat) r_13 hc_13) wml_RX11_96 wst_X11_letterOf win_RX11 wco_X11_letterOf (nA := 1) rfl (by decide +kernel)  ⟨(Nat.le_of_ble_eq_true rfl), (Nat.le_of_ble_eq_true rfl)⟩ (Nat.le_refl _) (Nat.le_refl _) rfl (by decide) dX11_parse_13 [] [0, 1, 2] rfl rfl rfl (by decide) (by decide) (by decide) rfl rfl (fun _ => rfl) rfl (fun _ => ?_)
        refine g_goto (pc := 16) C (tgt := 20) dX11_parse_16 (by decide) ?_
        exact H20 _ _ _ hf
  unfold fX11_parse at hf
  refine g_iconst (pc := 0) C dX11_parse_0 ?_
  refine g_istore_n (pc := 1) C (lv' := [(2, .int (zI 0)), (0, .ref (aMo 0)), (1, .int (zI v1))]) dX11_parse_1 rfl (Nat.le_of_ble_eq_true rfl) rfl ?_
  refine g_sub [0, 1, 2] [1, 2, 0] (by decide) rfl rfl rfl ?_
  exact H2 _ _ _ hf
set_option maxRecDepth 100000 in
theorem kX11_law (l : Launch) (D : va_G) (ca : Nat → ClassId) (aMo : Nat → Nat) (mo_tape : Nat → Int) (mo_taped : Int) (mo_rules : Nat → Int) (mo_said : Nat → Int) (mo_size : Int) (mo_runs : Int) (mo_found : Int) (mo_counted : Int) (mo_isParted : Int) (mo_maybes : Int) (mo_days : Int) (mo_over2 : Int) (mo_longer : Int) (v1 : Int) (r_o : Int) (mo_taped_o : Int) (mo_rules_o : Nat → Int) (mo_said_o : Nat → Int)
    (hf : fX11_law v1 mo_tape mo_taped mo_rules mo_said = some (r_o, mo_taped_o, mo_rules_o, mo_said_o)) : Zc l D ca yX11_law cX11_law 4 (some .int) { frames := 2, cells := 0, slots := 0, locals := 47 } [.ref (aMo 0), .int (zI v1)] [((aMo 0), .inr (11, [.ref (aMo 1), .int (zI mo_taped), .ref (aMo 3), .ref (aMo 4), .ref (aMo 5), .ref (aMo 6), .ref (aMo 7), .ref (aMo 8), .ref (aMo 9), .ref (aMo 10), .ref (aMo 11), .ref (aMo 12), .ref (aMo 13), .ref (aMo 14), .ref (aMo 15), .ref (aMo 16), .int (zI mo_size), .int (zI mo_runs), .ref (aMo 19), .ref (aMo 20), .ref (aMo 21), .int (zI mo_found), .int (zI mo_counted), .int (zI mo_isParted), .ref (aMo 25), .ref (aMo 26), .ref (aMo 27), .ref (aMo 28), .ref (aMo 29), .int (zI mo_maybes), .int (zI mo_days), .int (zI mo_over2), .int (zI mo_longer), .ref (aMo 34)])), ((aMo 1), .inl (ca 1, 80, .inl (zA mo_tape))), ((aMo 3), .inl (ca 0, 11, .inl (zA mo_rules))), ((aMo 4), .inl (ca 0, 11, .inl (zA mo_said)))] (some (.int (zI r_o))) (fun _ => [((aMo 0), .inr (11, [.ref (aMo 1), .int (zI mo_taped_o), .ref (aMo 3), .ref (aMo 4), .ref (aMo 5), .ref (aMo 6), .ref (aMo 7), .ref (aMo 8), .ref (aMo 9), .ref (aMo 10), .ref (aMo 11), .ref (aMo 12), .ref (aMo 13), .ref (aMo 14), .ref (aMo 15), .ref (aMo 16), .int (zI mo_size), .int (zI mo_runs), .ref (aMo 19), .ref (aMo 20), .ref (aMo 21), .int (zI mo_found), .int (zI mo_counted), .int (zI mo_isParted), .ref (aMo 25), .ref (aMo 26), .ref (aMo 27), .ref (aMo 28), .ref (aMo 29), .int (zI mo_maybes), .int (zI mo_days), .int (zI mo_over2), .int (zI mo_longer), .ref (aMo 34)])), ((aMo 1), .inl (ca 1, 80, .inl (zA mo_tape))), ((aMo 3), .inl (ca 0, 11, .inl (zA mo_rules_o))), ((aMo 4), .inl (ca 0, 11, .inl (zA mo_said_o)))]) := by
  refine ctr_of (lv := [(0, .ref (aMo 0)), (1, .int (zI v1))]) (by decide +kernel) (Nat.le_of_ble_eq_true rfl) rfl (fun Γ hl0 C E hnm => ?_)
  have H12 : ∀ (mo_taped : Int) (mo_rules : Nat → Int) (mo_said : Nat → Int), fX11_law_12 mo_taped mo_rules mo_said = some (r_o, mo_taped_o, mo_rules_o, mo_said_o) → Zd D Γ 0 0 [((aMo 0), .inr (11, [.ref (aMo 1), .int (zI mo_taped), .ref (aMo 3), .ref (aMo 4), .ref (aMo 5), .ref (aMo 6), .ref (aMo 7), .ref (aMo 8), .ref (aMo 9), .ref (aMo 10), .ref (aMo 11), .ref (aMo 12), .ref (aMo 13), .ref (aMo 14), .ref (aMo 15), .ref (aMo 16), .int (zI mo_size), .int (zI mo_runs), .ref (aMo 19), .ref (aMo 20), .ref (aMo 21), .int (zI mo_found), .int (zI mo_counted), .int (zI mo_isParted), .ref (aMo 25), .ref (aMo 26), .ref (aMo 27), .ref (aMo 28), .ref (aMo 29), .int (zI mo_maybes), .int (zI mo_days), .int (zI mo_over2), .int (zI mo_longer), .ref (aMo 34)])), ((aMo 1), .inl (ca 1, 80, .inl (zA mo_tape))), ((aMo 3), .inl (ca 0, 11, .inl (zA mo_rules))), ((aMo 4), .inl (ca 0, 11, .inl (zA mo_said)))] 12 [] [] := by
    intro mo_taped mo_rules mo_said hf
    unfold fX11_law_12 at hf
    refine g_iconst (pc := 12) C dX11_law_12 ?_
    cases hf
    exact g_iret (pc := 13) C E (fun _ => 0) [0, 1, 2, 3] (by decide) rfl rfl (Nat.le_refl _) (Nat.le_refl _) dX11_law_13
  have H62 : ∀ (v2 : Int) (mo_taped : Int) (mo_rules : Nat → Int) (mo_said : Nat → Int), fX11_law_62 v2 mo_taped mo_rules mo_said = some (r_o, mo_taped_o, mo_rules_o, mo_said_o) → Zd D Γ 0 0 [((aMo 0), .inr (11, [.ref (aMo 1), .int (zI mo_taped), .ref (aMo 3), .ref (aMo 4), .ref (aMo 5), .ref (aMo 6), .ref (aMo 7), .ref (aMo 8), .ref (aMo 9), .ref (aMo 10), .ref (aMo 11), .ref (aMo 12), .ref (aMo 13), .ref (aMo 14), .ref (aMo 15), .ref (aMo 16), .int (zI mo_size), .int (zI mo_runs), .ref (aMo 19), .ref (aMo 20), .ref (aMo 21), .int (zI mo_found), .int (zI mo_counted), .int (zI mo_isParted), .ref (aMo 25), .ref (aMo 26), .ref (aMo 27), .ref (aMo 28), .ref (aMo 29), .int (zI mo_maybes), .int (zI mo_days), .int (zI mo_over2), .int (zI mo_longer), .ref (aMo 34)])), ((aMo 1), .inl (ca 1, 80, .inl (zA mo_tape))), ((aMo 3), .inl (ca 0, 11, .inl (zA mo_rules))), ((aMo 4), .inl (ca 0, 11, .inl (zA mo_said)))] 62 [(2, .int (zI v2))] [] := by
    intro v2 mo_taped mo_rules mo_said hf
    unfold fX11_law_62 at hf
    refine g_iload_n (pc := 62) C 0 dX11_law_62 rfl rfl ?_
    cases hf
    exact g_iret (pc := 63) C E (fun _ => 0) [0, 1, 2, 3] (by decide) rfl rfl (Nat.le_refl _) (Nat.le_refl _) dX11_law_63
  have H34 : ∀ (v2 : Int) (mo_taped : Int) (mo_said : Nat → Int) (n34 : Nat) (v3 : Int) (mo_rules : Nat → Int), zlp (fX11_law_34 v2 mo_taped mo_said) n34 (v3, mo_rules) = some (r_o, mo_taped_o, mo_rules_o, mo_said_o) → Zd D Γ 0 0 [((aMo 0), .inr (11, [.ref (aMo 1), .int (zI mo_taped), .ref (aMo 3), .ref (aMo 4), .ref (aMo 5), .ref (aMo 6), .ref (aMo 7), .ref (aMo 8), .ref (aMo 9), .ref (aMo 10), .ref (aMo 11), .ref (aMo 12), .ref (aMo 13), .ref (aMo 14), .ref (aMo 15), .ref (aMo 16), .int (zI mo_size), .int (zI mo_runs), .ref (aMo 19), .ref (aMo 20), .ref (aMo 21), .int (zI mo_found), .int (zI mo_counted), .int (zI mo_isParted), .ref (aMo 25), .ref (aMo 26), .ref (aMo 27), .ref (aMo 28), .ref (aMo 29), .int (zI mo_maybes), .int (zI mo_days), .int (zI mo_over2), .int (zI mo_longer), .ref (aMo 34)])), ((aMo 1), .inl (ca 1, 80, .inl (zA mo_tape))), ((aMo 3), .inl (ca 0, 11, .inl (zA mo_rules))), ((aMo 4), .inl (ca 0, 11, .inl (zA mo_said)))] 34 [(0, .ref (aMo 0)), (2, .int (zI v2)), (3, .int (zI v3))] [] := by
    intro v2 mo_taped mo_said
    intro n34
    induction n34 with
    | zero =>
      intro v3 mo_rules hf
      exact zno hf
    | succ n34 ih34 =>
      intro v3 mo_rules hf
      rw [zlp_s] at hf
      unfold fX11_law_34 at hf
      dsimp only at hf
      refine g_iload_n (pc := 34) C 2 dX11_law_34 rfl rfl ?_
      refine g_bipush (pc := 35) C dX11_law_35 (by decide) ?_
      refine g_icmp_ger (pc := 37) C (tgt := 62) dX11_law_37 (by decide) (by decide) hf (fun hf => ?_) (fun hf => ?_)
      · refine g_sub [0, 1, 2, 3] [1] (by decide) rfl rfl rfl ?_
        exact H62 _ _ _ _ hf
      · refine g_iload_n (pc := 40) C 1 dX11_law_40 rfl rfl ?_
        refine g_if_ne (pc := 41) C (tgt := 62) dX11_law_41 (by decide) hf (fun hf => ?_) (fun hf => ?_)
        · refine g_sub [0, 1, 2, 3] [1] (by decide) rfl rfl rfl ?_
          exact H62 _ _ _ _ hf
        · refine g_aload_n (pc := 44) C 0 dX11_law_44 rfl rfl ?_
          refine g_get (pc := 45) C zf_X11_13 0 rfl rfl dX11_law_45 ?_
          refine g_iload_n (pc := 48) C 2 dX11_law_48 rfl rfl ?_
          refine g_aload_n (pc := 49) C 0 dX11_law_49 rfl rfl ?_
          refine g_get (pc := 50) C zf_X11_17 0 rfl rfl dX11_law_50 ?_
          refine g_iload_n (pc := 53) C 2 dX11_law_53 rfl rfl ?_
          refine g_iald (pc := 54) C (N := 11) 3 rfl rfl (Nat.le_of_ble_eq_true rfl) dX11_law_54 hf (fun hf => ?_)
          refine g_iast (pc := 55) C (N := 11) (ws' := [((aMo 0), .inr (11, [.ref (aMo 1), .int (zI mo_taped), .ref (aMo 3), .ref (aMo 4), .ref (aMo 5), .ref (aMo 6), .ref (aMo 7), .ref (aMo 8), .ref (aMo 9), .ref (aMo 10), .ref (aMo 11), .ref (aMo 12), .ref (aMo 13), .ref (aMo 14), .ref (aMo 15), .ref (aMo 16), .int (zI mo_size), .int (zI mo_runs), .ref (aMo 19), .ref (aMo 20), .ref (aMo 21), .int (zI mo_found), .int (zI mo_counted), .int (zI mo_isParted), .ref (aMo 25), .ref (aMo 26), .ref (aMo 27), .ref (aMo 28), .ref (aMo 29), .int (zI mo_maybes), .int (zI mo_days), .int (zI mo_over2), .int (zI mo_longer), .ref (aMo 34)])), ((aMo 1), .inl (ca 1, 80, .inl (zA mo_tape))), ((aMo 3), .inl (ca 0, 11, .inl (zA (zU mo_rules v3.toNat (mo_said v3.toNat))))), ((aMo 4), .inl (ca 0, 11, .inl (zA mo_said)))]) 2 rfl rfl (Nat.le_of_ble_eq_true rfl) rfl dX11_law_55 hf (fun hf => ?_)
          refine g_iinc (pc := 56) C 2 (lv' := [(3, .int (zI (v3 + 1))), (0, .ref (aMo 0)), (2, .int (zI v2))]) dX11_law_56 rfl (Nat.le_of_ble_eq_true rfl) rfl ?_
          refine g_goto (pc := 59) C (tgt := 34) dX11_law_59 (by decide) ?_
          refine g_sub [0, 1, 2, 3] [1, 2, 0] (by decide) rfl rfl rfl ?_
          exact ih34 _ _ hf
  unfold fX11_law at hf
  refine g_iload_n (pc := 0) C 1 dX11_law_0 rfl rfl ?_
  refine g_if_lt (pc := 1) C (tgt := 12) dX11_law_1 (by decide) hf (fun hf => ?_) (fun hf => ?_)
  · refine g_sub [0, 1, 2, 3] [] (by decide) rfl rfl rfl ?_
    exact H12 _ _ _ hf
  · refine g_iload_n (pc := 4) C 1 dX11_law_4 rfl rfl ?_
    refine g_aload_n (pc := 5) C 0 dX11_law_5 rfl rfl ?_
    refine g_get (pc := 6) C zf_X11_88 0 rfl rfl dX11_law_6 ?_
    refine g_icmp_le (pc := 9) C (tgt := 14) dX11_law_9 (by decide) hf (fun hf => ?_) (fun hf => ?_)
    · refine g_aload_n (pc := 14) C 0 dX11_law_14 rfl rfl ?_
      refine g_get (pc := 15) C zf_X11_17 0 rfl rfl dX11_law_15 ?_
      obtain ⟨mo_said_18, hc_18, hf⟩ := Option.bind_eq_some_iff.mp hf
      refine g_callS (pc := 18) C hl0 (wr := [((aMo 0), .inr (11, [.ref (aMo 1), .int (zI mo_taped), .ref (aMo 3), .ref (aMo 4), .ref (aMo 5), .ref (aMo 6), .ref (aMo 7), .ref (aMo 8), .ref (aMo 9), .ref (aMo 10), .ref (aMo 11), .ref (aMo 12), .ref (aMo 13), .ref (aMo 14), .ref (aMo 15), .ref (aMo 16), .int (zI mo_size), .int (zI mo_runs), .ref (aMo 19), .ref (aMo 20), .ref (aMo 21), .int (zI mo_found), .int (zI mo_counted), .int (zI mo_isParted), .ref (aMo 25), .ref (aMo 26), .ref (aMo 27), .ref (aMo 28), .ref (aMo 29), .int (zI mo_maybes), .int (zI mo_days), .int (zI mo_over2), .int (zI mo_longer), .ref (aMo 34)])), ((aMo 1), .inl (ca 1, 80, .inl (zA mo_tape))), ((aMo 3), .inl (ca 0, 11, .inl (zA mo_rules)))]) (k' := 0) (n' := 0) (ws' := fun _ => [((aMo 0), .inr (11, [.ref (aMo 1), .int (zI mo_taped), .ref (aMo 3), .ref (aMo 4), .ref (aMo 5), .ref (aMo 6), .ref (aMo 7), .ref (aMo 8), .ref (aMo 9), .ref (aMo 10), .ref (aMo 11), .ref (aMo 12), .ref (aMo 13), .ref (aMo 14), .ref (aMo 15), .ref (aMo 16), .int (zI mo_size), .int (zI mo_runs), .ref (aMo 19), .ref (aMo 20), .ref (aMo 21), .int (zI mo_found), .int (zI mo_counted), .int (zI mo_isParted), .ref (aMo 25), .ref (aMo 26), .ref (aMo 27), .ref (aMo 28), .ref (aMo 29), .int (zI mo_maybes), .int (zI mo_days), .int (zI mo_over2), .int (zI mo_longer), .ref (aMo 34)])), ((aMo 1), .inl (ca 1, 80, .inl (zA mo_tape))), ((aMo 3), .inl (ca 0, 11, .inl (zA mo_rules))), ((aMo 4), .inl (ca 0, 11, .inl (zA mo_said_18)))]) (st' := []) (kX11_begins l D ca (aMo 4) mo_said mo_said_18 hc_18) wml_RX11_84 wst_X11_begins win_RX11 wco_X11_begins (nA := 1) rfl (by decide +kernel)  ⟨(Nat.le_of_ble_eq_true rfl), (Nat.le_of_ble_eq_true rfl)⟩ (Nat.le_refl _) (Nat.le_refl _) rfl (by decide) dX11_law_18 [3] [0, 1, 2] rfl rfl rfl (by decide) (by decide) (by decide) rfl rfl (fun _ => rfl) rfl (fun _ => ?_)
      refine g_aload_n (pc := 21) C 0 dX11_law_21 rfl rfl ?_
      refine g_iload_n (pc := 22) C 1 dX11_law_22 rfl rfl ?_
      obtain ⟨⟨r_23, mo_said_23⟩, hc_23, hf⟩ := Option.bind_eq_some_iff.mp hf
      dsimp only at hf
      refine g_callV (pc := 23) C hl0 (wr := [((aMo 3), .inl (ca 0, 11, .inl (zA mo_rules)))]) (k' := 0) (n' := 0) (ws' := fun _ => [((aMo 3), .inl (ca 0, 11, .inl (zA mo_rules))), ((aMo 0), .inr (11, [.ref (aMo 1), .int (zI mo_taped), .ref (aMo 3), .ref (aMo 4), .ref (aMo 5), .ref (aMo 6), .ref (aMo 7), .ref (aMo 8), .ref (aMo 9), .ref (aMo 10), .ref (aMo 11), .ref (aMo 12), .ref (aMo 13), .ref (aMo 14), .ref (aMo 15), .ref (aMo 16), .int (zI mo_size), .int (zI mo_runs), .ref (aMo 19), .ref (aMo 20), .ref (aMo 21), .int (zI mo_found), .int (zI mo_counted), .int (zI mo_isParted), .ref (aMo 25), .ref (aMo 26), .ref (aMo 27), .ref (aMo 28), .ref (aMo 29), .int (zI mo_maybes), .int (zI mo_days), .int (zI mo_over2), .int (zI mo_longer), .ref (aMo 34)])), ((aMo 1), .inl (ca 1, 80, .inl (zA mo_tape))), ((aMo 4), .inl (ca 0, 11, .inl (zA mo_said_23)))]) (st' := [.int (zI r_23)]) (kX11_parse l D ca aMo mo_tape mo_taped mo_said_18 mo_size mo_runs mo_found mo_counted mo_isParted mo_maybes mo_days mo_over2 mo_longer v1 r_23 mo_said_23 hc_23) wml_RX11_107 wim_X11_parse wse_X11_parse win_RX11 wco_X11_parse (nA := 1) rfl (by decide +kernel)  ⟨(Nat.le_of_ble_eq_true rfl), (Nat.le_of_ble_eq_true rfl)⟩ (Nat.le_refl _) (Nat.le_refl _) rfl (by decide) dX11_law_23 0 11 rfl rfl rfl [0, 1, 3] [2] rfl rfl rfl (by decide) (by decide) (by decide) rfl rfl (fun _ => rfl) rfl (fun _ => ?_)
      refine g_istore_n (pc := 26) C (lv' := [(2, .int (zI r_23)), (0, .ref (aMo 0)), (1, .int (zI v1))]) dX11_law_26 rfl (Nat.le_of_ble_eq_true rfl) rfl ?_
      refine g_aload_n (pc := 27) C 1 dX11_law_27 rfl rfl ?_
      refine g_iconst (pc := 28) C dX11_law_28 ?_
      refine g_put (pc := 29) C zf_X11_88 tyX11 tyX11_ok nmX11 (v := .int (zI 0)) (ws' := [((aMo 3), .inl (ca 0, 11, .inl (zA mo_rules))), ((aMo 0), .inr (11, [.ref (aMo 1), .int (zI 0), .ref (aMo 3), .ref (aMo 4), .ref (aMo 5), .ref (aMo 6), .ref (aMo 7), .ref (aMo 8), .ref (aMo 9), .ref (aMo 10), .ref (aMo 11), .ref (aMo 12), .ref (aMo 13), .ref (aMo 14), .ref (aMo 15), .ref (aMo 16), .int (zI mo_size), .int (zI mo_runs), .ref (aMo 19), .ref (aMo 20), .ref (aMo 21), .int (zI mo_found), .int (zI mo_counted), .int (zI mo_isParted), .ref (aMo 25), .ref (aMo 26), .ref (aMo 27), .ref (aMo 28), .ref (aMo 29), .int (zI mo_maybes), .int (zI mo_days), .int (zI mo_over2), .int (zI mo_longer), .ref (aMo 34)])), ((aMo 1), .inl (ca 1, 80, .inl (zA mo_tape))), ((aMo 4), .inl (ca 0, 11, .inl (zA mo_said_23)))]) 1 rfl rfl rfl rfl rfl (Nat.le_of_ble_eq_true rfl) rfl rfl dX11_law_29 ?_
      refine g_iconst (pc := 32) C dX11_law_32 ?_
      refine g_istore_n (pc := 33) C (lv' := [(3, .int (zI 0)), (2, .int (zI r_23)), (0, .ref (aMo 0)), (1, .int (zI v1))]) dX11_law_33 rfl (Nat.le_of_ble_eq_true rfl) rfl ?_
      refine g_sub [1, 2, 0, 3] [2, 1, 0] (by decide) rfl rfl rfl ?_
      exact H34 _ _ _ _ _ _ hf
    · refine g_sub [0, 1, 2, 3] [] (by decide) rfl rfl rfl ?_
      exact H12 _ _ _ hf
set_option maxRecDepth 100000 in
theorem kX11_lesser (l : Launch) (D : va_G) (ca : Nat → ClassId)   (v0 : Int) (v1 : Int) (r_o : Int)
    (hf : fX11_lesser v0 v1 = some r_o) : Zc l D ca yX11_lesser cX11_lesser 2 (some .int) { frames := 0, cells := 0, slots := 0, locals := 0 } [.int (zI v0), .int (zI v1)] [] (some (.int (zI r_o))) (fun _ => []) := by
  refine ctr_of (lv := [(0, .int (zI v0)), (1, .int (zI v1))]) (by decide +kernel) (Nat.le_of_ble_eq_true rfl) rfl (fun Γ hl0 C E hnm => ?_)
  unfold fX11_lesser at hf
  refine g_iload_n (pc := 0) C 0 dX11_lesser_0 rfl rfl ?_
  refine g_iload_n (pc := 1) C 1 dX11_lesser_1 rfl rfl ?_
  refine g_icmp_ge (pc := 2) C (tgt := 9) dX11_lesser_2 (by decide) hf (fun hf => ?_) (fun hf => ?_)
  · refine g_iload_n (pc := 9) C 1 dX11_lesser_9 rfl rfl ?_
    cases hf
    exact g_iret (pc := 10) C E (fun _ => 0) [] (by decide) rfl rfl (Nat.le_refl _) (Nat.le_refl _) dX11_lesser_10
  · refine g_iload_n (pc := 5) C 0 dX11_lesser_5 rfl rfl ?_
    refine g_goto (pc := 6) C (tgt := 10) dX11_lesser_6 (by decide) ?_
    cases hf
    exact g_iret (pc := 10) C E (fun _ => 0) [] (by decide) rfl rfl (Nat.le_refl _) (Nat.le_refl _) dX11_lesser_10
set_option maxRecDepth 100000 in
theorem kX11_look (l : Launch) (D : va_G) (ca : Nat → ClassId) (aMo : Nat → Nat) (mo_taped : Int) (mo_acts : Nat → Int) (mo_kindOf : Nat → Int) (mo_lengthOf : Nat → Int) (mo_vehicleOf : Nat → Int) (mo_size : Int) (mo_runs : Int) (mo_found : Int) (mo_counted : Int) (mo_isParted : Int) (mo_maybes : Int) (mo_days : Int) (mo_over2 : Int) (mo_longer : Int) (v1 : Int) (v2 : Int) (v3 : Int) (r_o : Int)
    (hf : fX11_look v1 v2 v3 mo_acts mo_kindOf mo_lengthOf mo_vehicleOf = some r_o) : Zc l D ca yX11_look cX11_look 7 (some .int) { frames := 1, cells := 0, slots := 0, locals := 20 } [.ref (aMo 0), .int (zI v1), .int (zI v2), .int (zI v3)] [((aMo 0), .inr (11, [.ref (aMo 1), .int (zI mo_taped), .ref (aMo 3), .ref (aMo 4), .ref (aMo 5), .ref (aMo 6), .ref (aMo 7), .ref (aMo 8), .ref (aMo 9), .ref (aMo 10), .ref (aMo 11), .ref (aMo 12), .ref (aMo 13), .ref (aMo 14), .ref (aMo 15), .ref (aMo 16), .int (zI mo_size), .int (zI mo_runs), .ref (aMo 19), .ref (aMo 20), .ref (aMo 21), .int (zI mo_found), .int (zI mo_counted), .int (zI mo_isParted), .ref (aMo 25), .ref (aMo 26), .ref (aMo 27), .ref (aMo 28), .ref (aMo 29), .int (zI mo_maybes), .int (zI mo_days), .int (zI mo_over2), .int (zI mo_longer), .ref (aMo 34)])), ((aMo 5), .inl (ca 0, 4, .inl (zA mo_acts))), ((aMo 7), .inl (ca 0, 240, .inl (zA mo_kindOf))), ((aMo 8), .inl (ca 0, 240, .inl (zA mo_lengthOf))), ((aMo 9), .inl (ca 0, 240, .inl (zA mo_vehicleOf)))] (some (.int (zI r_o))) (fun _ => [((aMo 0), .inr (11, [.ref (aMo 1), .int (zI mo_taped), .ref (aMo 3), .ref (aMo 4), .ref (aMo 5), .ref (aMo 6), .ref (aMo 7), .ref (aMo 8), .ref (aMo 9), .ref (aMo 10), .ref (aMo 11), .ref (aMo 12), .ref (aMo 13), .ref (aMo 14), .ref (aMo 15), .ref (aMo 16), .int (zI mo_size), .int (zI mo_runs), .ref (aMo 19), .ref (aMo 20), .ref (aMo 21), .int (zI mo_found), .int (zI mo_counted), .int (zI mo_isParted), .ref (aMo 25), .ref (aMo 26), .ref (aMo 27), .ref (aMo 28), .ref (aMo 29), .int (zI mo_maybes), .int (zI mo_days), .int (zI mo_over2), .int (zI mo_longer), .ref (aMo 34)])), ((aMo 5), .inl (ca 0, 4, .inl (zA mo_acts))), ((aMo 7), .inl (ca 0, 240, .inl (zA mo_kindOf))), ((aMo 8), .inl (ca 0, 240, .inl (zA mo_lengthOf))), ((aMo 9), .inl (ca 0, 240, .inl (zA mo_vehicleOf)))]) := by
  refine ctr_of (lv := [(0, .ref (aMo 0)), (1, .int (zI v1)), (2, .int (zI v2)), (3, .int (zI v3))]) (by decide +kernel) (Nat.le_of_ble_eq_true rfl) rfl (fun Γ hl0 C E hnm => ?_)
  have H21 : fX11_look_21 = some r_o → Zd D Γ 0 0 [((aMo 0), .inr (11, [.ref (aMo 1), .int (zI mo_taped), .ref (aMo 3), .ref (aMo 4), .ref (aMo 5), .ref (aMo 6), .ref (aMo 7), .ref (aMo 8), .ref (aMo 9), .ref (aMo 10), .ref (aMo 11), .ref (aMo 12), .ref (aMo 13), .ref (aMo 14), .ref (aMo 15), .ref (aMo 16), .int (zI mo_size), .int (zI mo_runs), .ref (aMo 19), .ref (aMo 20), .ref (aMo 21), .int (zI mo_found), .int (zI mo_counted), .int (zI mo_isParted), .ref (aMo 25), .ref (aMo 26), .ref (aMo 27), .ref (aMo 28), .ref (aMo 29), .int (zI mo_maybes), .int (zI mo_days), .int (zI mo_over2), .int (zI mo_longer), .ref (aMo 34)])), ((aMo 5), .inl (ca 0, 4, .inl (zA mo_acts))), ((aMo 7), .inl (ca 0, 240, .inl (zA mo_kindOf))), ((aMo 8), .inl (ca 0, 240, .inl (zA mo_lengthOf))), ((aMo 9), .inl (ca 0, 240, .inl (zA mo_vehicleOf)))] 21 [] [] := by
    intro  hf
    unfold fX11_look_21 at hf
    refine g_iconst (pc := 21) C dX11_look_21 ?_
    cases hf
    exact g_iret (pc := 22) C E (fun _ => 0) [0, 1, 2, 3, 4] (by decide) rfl rfl (Nat.le_refl _) (Nat.le_refl _) dX11_look_22
  have H40 : ∀ (v4 : Int) (n40 : Nat) (v5 : Int) (v6 : Int), zlp (fX11_look_40 v3 v4 mo_kindOf mo_lengthOf mo_vehicleOf) n40 (v5, v6) = some r_o → Zd D Γ 0 0 [((aMo 0), .inr (11, [.ref (aMo 1), .int (zI mo_taped), .ref (aMo 3), .ref (aMo 4), .ref (aMo 5), .ref (aMo 6), .ref (aMo 7), .ref (aMo 8), .ref (aMo 9), .ref (aMo 10), .ref (aMo 11), .ref (aMo 12), .ref (aMo 13), .ref (aMo 14), .ref (aMo 15), .ref (aMo 16), .int (zI mo_size), .int (zI mo_runs), .ref (aMo 19), .ref (aMo 20), .ref (aMo 21), .int (zI mo_found), .int (zI mo_counted), .int (zI mo_isParted), .ref (aMo 25), .ref (aMo 26), .ref (aMo 27), .ref (aMo 28), .ref (aMo 29), .int (zI mo_maybes), .int (zI mo_days), .int (zI mo_over2), .int (zI mo_longer), .ref (aMo 34)])), ((aMo 5), .inl (ca 0, 4, .inl (zA mo_acts))), ((aMo 7), .inl (ca 0, 240, .inl (zA mo_kindOf))), ((aMo 8), .inl (ca 0, 240, .inl (zA mo_lengthOf))), ((aMo 9), .inl (ca 0, 240, .inl (zA mo_vehicleOf)))] 40 [(0, .ref (aMo 0)), (3, .int (zI v3)), (4, .int (zI v4)), (5, .int (zI v5)), (6, .int (zI v6))] [] := by
    intro v4
    intro n40
    induction n40 with
    | zero =>
      intro v5 v6 hf
      exact zno hf
    | succ n40 ih40 =>
      intro v5 v6 hf
      rw [zlp_s] at hf
      unfold fX11_look_40 at hf
      dsimp only at hf
      refine g_iload (pc := 40) C 4 dX11_look_40 rfl ?_
      refine g_iload (pc := 42) C 2 dX11_look_42 rfl ?_
      refine g_icmp_ge (pc := 44) C (tgt := 65) dX11_look_44 (by decide) hf (fun hf => ?_) (fun hf => ?_)
      · refine g_iload_n (pc := 65) C 1 dX11_look_65 rfl rfl ?_
        refine g_if_ne (pc := 66) C (tgt := 79) dX11_look_66 (by decide) hf (fun hf => ?_) (fun hf => ?_)
        · refine g_iload_n (pc := 79) C 1 dX11_look_79 rfl rfl ?_
          refine g_iconst (pc := 80) C dX11_look_80 ?_
          refine g_icmp_ner (pc := 81) C (tgt := 94) dX11_look_81 (by decide) (by decide) hf (fun hf => ?_) (fun hf => ?_)
          · refine g_iload_n (pc := 94) C 1 dX11_look_94 rfl rfl ?_
            refine g_iconst (pc := 95) C dX11_look_95 ?_
            refine g_icmp_ner (pc := 96) C (tgt := 104) dX11_look_96 (by decide) (by decide) hf (fun hf => ?_) (fun hf => ?_)
            · refine g_iload_n (pc := 104) C 1 dX11_look_104 rfl rfl ?_
              refine g_iconst (pc := 105) C dX11_look_105 ?_
              refine g_icmp_ner (pc := 106) C (tgt := 119) dX11_look_106 (by decide) (by decide) hf (fun hf => ?_) (fun hf => ?_)
              · refine g_iconst (pc := 119) C dX11_look_119 ?_
                cases hf
                exact g_iret (pc := 120) C E (fun _ => 0) [0, 1, 2, 3, 4] (by decide) rfl rfl (Nat.le_refl _) (Nat.le_refl _) dX11_look_120
              · refine g_aload_n (pc := 109) C 0 dX11_look_109 rfl rfl ?_
                refine g_get (pc := 110) C zf_X11_32 0 rfl rfl dX11_look_110 ?_
                refine g_iload (pc := 113) C 2 dX11_look_113 rfl ?_
                refine g_iald (pc := 115) C (N := 240) 4 rfl rfl (Nat.le_of_ble_eq_true rfl) dX11_look_115 hf (fun hf => ?_)
                refine g_goto (pc := 116) C (tgt := 120) dX11_look_116 (by decide) ?_
                cases hf
                exact g_iret (pc := 120) C E (fun _ => 0) [0, 1, 2, 3, 4] (by decide) rfl rfl (Nat.le_refl _) (Nat.le_refl _) dX11_look_120
            · refine g_iload (pc := 99) C 3 dX11_look_99 rfl ?_
              refine g_goto (pc := 101) C (tgt := 120) dX11_look_101 (by decide) ?_
              cases hf
              exact g_iret (pc := 120) C E (fun _ => 0) [0, 1, 2, 3, 4] (by decide) rfl rfl (Nat.le_refl _) (Nat.le_refl _) dX11_look_120
          · refine g_aload_n (pc := 84) C 0 dX11_look_84 rfl rfl ?_
            refine g_get (pc := 85) C zf_X11_29 0 rfl rfl dX11_look_85 ?_
            refine g_iload (pc := 88) C 2 dX11_look_88 rfl ?_
            refine g_iald (pc := 90) C (N := 240) 3 rfl rfl (Nat.le_of_ble_eq_true rfl) dX11_look_90 hf (fun hf => ?_)
            refine g_goto (pc := 91) C (tgt := 120) dX11_look_91 (by decide) ?_
            cases hf
            exact g_iret (pc := 120) C E (fun _ => 0) [0, 1, 2, 3, 4] (by decide) rfl rfl (Nat.le_refl _) (Nat.le_refl _) dX11_look_120
        · refine g_aload_n (pc := 69) C 0 dX11_look_69 rfl rfl ?_
          refine g_get (pc := 70) C zf_X11_26 0 rfl rfl dX11_look_70 ?_
          refine g_iload (pc := 73) C 2 dX11_look_73 rfl ?_
          refine g_iald (pc := 75) C (N := 240) 2 rfl rfl (Nat.le_of_ble_eq_true rfl) dX11_look_75 hf (fun hf => ?_)
          refine g_goto (pc := 76) C (tgt := 120) dX11_look_76 (by decide) ?_
          cases hf
          exact g_iret (pc := 120) C E (fun _ => 0) [0, 1, 2, 3, 4] (by decide) rfl rfl (Nat.le_refl _) (Nat.le_refl _) dX11_look_120
      · refine g_iload (pc := 47) C 3 dX11_look_47 rfl ?_
        refine g_aload_n (pc := 49) C 0 dX11_look_49 rfl rfl ?_
        refine g_get (pc := 50) C zf_X11_29 0 rfl rfl dX11_look_50 ?_
        refine g_iload (pc := 53) C 4 dX11_look_53 rfl ?_
        refine g_iald (pc := 55) C (N := 240) 3 rfl rfl (Nat.le_of_ble_eq_true rfl) dX11_look_55 hf (fun hf => ?_)
        refine g_iadd (pc := 56) C dX11_look_56 ?_
        refine g_istore (pc := 57) C (lv' := [(5, .int (zI (v5 + (mo_lengthOf v6.toNat)))), (0, .ref (aMo 0)), (3, .int (zI v3)), (4, .int (zI v4)), (6, .int (zI v6))]) dX11_look_57 (Nat.le_of_ble_eq_true rfl) rfl ?_
        refine g_iinc (pc := 59) C 4 (lv' := [(6, .int (zI (v6 + 1))), (5, .int (zI (v5 + (mo_lengthOf v6.toNat)))), (0, .ref (aMo 0)), (3, .int (zI v3)), (4, .int (zI v4))]) dX11_look_59 rfl (Nat.le_of_ble_eq_true rfl) rfl ?_
        refine g_goto (pc := 62) C (tgt := 40) dX11_look_62 (by decide) ?_
        refine g_sub [0, 1, 2, 3, 4] [2, 3, 4, 1, 0] (by decide) rfl rfl rfl ?_
        exact ih40 _ _ hf
  unfold fX11_look at hf
  refine g_iload_n (pc := 0) C 1 dX11_look_0 rfl rfl ?_
  obtain ⟨r_1, hc_1, hf⟩ := Option.bind_eq_some_iff.mp hf
  refine g_callS (pc := 1) C hl0 (wr := [((aMo 0), .inr (11, [.ref (aMo 1), .int (zI mo_taped), .ref (aMo 3), .ref (aMo 4), .ref (aMo 5), .ref (aMo 6), .ref (aMo 7), .ref (aMo 8), .ref (aMo 9), .ref (aMo 10), .ref (aMo 11), .ref (aMo 12), .ref (aMo 13), .ref (aMo 14), .ref (aMo 15), .ref (aMo 16), .int (zI mo_size), .int (zI mo_runs), .ref (aMo 19), .ref (aMo 20), .ref (aMo 21), .int (zI mo_found), .int (zI mo_counted), .int (zI mo_isParted), .ref (aMo 25), .ref (aMo 26), .ref (aMo 27), .ref (aMo 28), .ref (aMo 29), .int (zI mo_maybes), .int (zI mo_days), .int (zI mo_over2), .int (zI mo_longer), .ref (aMo 34)])), ((aMo 5), .inl (ca 0, 4, .inl (zA mo_acts))), ((aMo 7), .inl (ca 0, 240, .inl (zA mo_kindOf))), ((aMo 8), .inl (ca 0, 240, .inl (zA mo_lengthOf))), ((aMo 9), .inl (ca 0, 240, .inl (zA mo_vehicleOf)))]) (k' := 0) (n' := 0) (ws' := fun _ => [((aMo 0), .inr (11, [.ref (aMo 1), .int (zI mo_taped), .ref (aMo 3), .ref (aMo 4), .ref (aMo 5), .ref (aMo 6), .ref (aMo 7), .ref (aMo 8), .ref (aMo 9), .ref (aMo 10), .ref (aMo 11), .ref (aMo 12), .ref (aMo 13), .ref (aMo 14), .ref (aMo 15), .ref (aMo 16), .int (zI mo_size), .int (zI mo_runs), .ref (aMo 19), .ref (aMo 20), .ref (aMo 21), .int (zI mo_found), .int (zI mo_counted), .int (zI mo_isParted), .ref (aMo 25), .ref (aMo 26), .ref (aMo 27), .ref (aMo 28), .ref (aMo 29), .int (zI mo_maybes), .int (zI mo_days), .int (zI mo_over2), .int (zI mo_longer), .ref (aMo 34)])), ((aMo 5), .inl (ca 0, 4, .inl (zA mo_acts))), ((aMo 7), .inl (ca 0, 240, .inl (zA mo_kindOf))), ((aMo 8), .inl (ca 0, 240, .inl (zA mo_lengthOf))), ((aMo 9), .inl (ca 0, 240, .inl (zA mo_vehicleOf)))]) (st' := [.int (zI r_1)]) (kX11_isCard l D ca v1 r_1 hc_1) wml_RX11_110 wst_X11_isCard win_RX11 wco_X11_isCard (nA := 1) rfl (by decide +kernel)  ⟨(Nat.le_of_ble_eq_true rfl), (Nat.le_of_ble_eq_true rfl)⟩ (Nat.le_refl _) (Nat.le_refl _) rfl (by decide) dX11_look_1 [] [0, 1, 2, 3, 4] rfl rfl rfl (by decide) (by decide) (by decide) rfl rfl (fun _ => rfl) rfl (fun _ => ?_)
  refine g_if_eq (pc := 4) C (tgt := 21) dX11_look_4 (by decide) hf (fun hf => ?_) (fun hf => ?_)
  · refine g_sub [0, 1, 2, 3, 4] [] (by decide) rfl rfl rfl ?_
    exact H21  hf
  · refine g_iload_n (pc := 7) C 2 dX11_look_7 rfl rfl ?_
    refine g_if_lt (pc := 8) C (tgt := 21) dX11_look_8 (by decide) hf (fun hf => ?_) (fun hf => ?_)
    · refine g_sub [0, 1, 2, 3, 4] [] (by decide) rfl rfl rfl ?_
      exact H21  hf
    · refine g_iload_n (pc := 11) C 2 dX11_look_11 rfl rfl ?_
      refine g_aload_n (pc := 12) C 0 dX11_look_12 rfl rfl ?_
      refine g_get (pc := 13) C zf_X11_20 0 rfl rfl dX11_look_13 ?_
      refine g_iload_n (pc := 16) C 1 dX11_look_16 rfl rfl ?_
      refine g_iald (pc := 17) C (N := 4) 1 rfl rfl (Nat.le_of_ble_eq_true rfl) dX11_look_17 hf (fun hf => ?_)
      refine g_icmp_lt (pc := 18) C (tgt := 23) dX11_look_18 (by decide) hf (fun hf => ?_) (fun hf => ?_)
      · refine g_bipush (pc := 23) C dX11_look_23 (by decide) ?_
        refine g_iload_n (pc := 25) C 1 dX11_look_25 rfl rfl ?_
        refine g_imul (pc := 26) C dX11_look_26 ?_
        refine g_iload_n (pc := 27) C 2 dX11_look_27 rfl rfl ?_
        refine g_iadd (pc := 28) C dX11_look_28 ?_
        refine g_istore (pc := 29) C (lv' := [(4, .int (zI ((60 * v1) + v2))), (0, .ref (aMo 0)), (1, .int (zI v1)), (2, .int (zI v2)), (3, .int (zI v3))]) dX11_look_29 (Nat.le_of_ble_eq_true rfl) rfl ?_
        refine g_iconst (pc := 31) C dX11_look_31 ?_
        refine g_istore (pc := 32) C (lv' := [(5, .int (zI 0)), (4, .int (zI ((60 * v1) + v2))), (0, .ref (aMo 0)), (1, .int (zI v1)), (2, .int (zI v2)), (3, .int (zI v3))]) dX11_look_32 (Nat.le_of_ble_eq_true rfl) rfl ?_
        refine g_bipush (pc := 34) C dX11_look_34 (by decide) ?_
        refine g_iload_n (pc := 36) C 3 dX11_look_36 rfl rfl ?_
        refine g_imul (pc := 37) C dX11_look_37 ?_
        refine g_istore (pc := 38) C (lv' := [(6, .int (zI (60 * v1))), (5, .int (zI 0)), (4, .int (zI ((60 * v1) + v2))), (0, .ref (aMo 0)), (1, .int (zI v1)), (2, .int (zI v2)), (3, .int (zI v3))]) dX11_look_38 (Nat.le_of_ble_eq_true rfl) rfl ?_
        refine g_sub [0, 1, 2, 3, 4] [3, 6, 2, 1, 0] (by decide) rfl rfl rfl ?_
        exact H40 _ _ _ _ hf
      · refine g_sub [0, 1, 2, 3, 4] [] (by decide) rfl rfl rfl ?_
        exact H21  hf
set_option maxRecDepth 100000 in
theorem kX11_open (l : Launch) (D : va_G) (ca : Nat → ClassId) (aMo : Nat → Nat) (mo_taped : Int) (mo_rules : Nat → Int) (mo_driven : Nat → Int) (mo_runFrom : Nat → Int) (mo_runTo : Nat → Int) (mo_size : Int) (mo_runs : Int) (mo_found : Int) (mo_counted : Int) (mo_isParted : Int) (mo_maybes : Int) (mo_days : Int) (mo_over2 : Int) (mo_longer : Int)  (r_o : Int) (mo_counted_o : Int) (mo_isParted_o : Int)
    (hf : fX11_open mo_rules mo_driven mo_runFrom mo_runTo mo_size mo_runs mo_counted mo_isParted = some (r_o, mo_counted_o, mo_isParted_o)) : Zc l D ca yX11_open cX11_open 4 (some .int) { frames := 1, cells := 0, slots := 0, locals := 22 } [.ref (aMo 0)] [((aMo 0), .inr (11, [.ref (aMo 1), .int (zI mo_taped), .ref (aMo 3), .ref (aMo 4), .ref (aMo 5), .ref (aMo 6), .ref (aMo 7), .ref (aMo 8), .ref (aMo 9), .ref (aMo 10), .ref (aMo 11), .ref (aMo 12), .ref (aMo 13), .ref (aMo 14), .ref (aMo 15), .ref (aMo 16), .int (zI mo_size), .int (zI mo_runs), .ref (aMo 19), .ref (aMo 20), .ref (aMo 21), .int (zI mo_found), .int (zI mo_counted), .int (zI mo_isParted), .ref (aMo 25), .ref (aMo 26), .ref (aMo 27), .ref (aMo 28), .ref (aMo 29), .int (zI mo_maybes), .int (zI mo_days), .int (zI mo_over2), .int (zI mo_longer), .ref (aMo 34)])), ((aMo 3), .inl (ca 0, 11, .inl (zA mo_rules))), ((aMo 14), .inl (ca 0, 20161, .inl (zA mo_driven))), ((aMo 15), .inl (ca 0, 60, .inl (zA mo_runFrom))), ((aMo 16), .inl (ca 0, 60, .inl (zA mo_runTo)))] (some (.int (zI r_o))) (fun _ => [((aMo 0), .inr (11, [.ref (aMo 1), .int (zI mo_taped), .ref (aMo 3), .ref (aMo 4), .ref (aMo 5), .ref (aMo 6), .ref (aMo 7), .ref (aMo 8), .ref (aMo 9), .ref (aMo 10), .ref (aMo 11), .ref (aMo 12), .ref (aMo 13), .ref (aMo 14), .ref (aMo 15), .ref (aMo 16), .int (zI mo_size), .int (zI mo_runs), .ref (aMo 19), .ref (aMo 20), .ref (aMo 21), .int (zI mo_found), .int (zI mo_counted_o), .int (zI mo_isParted_o), .ref (aMo 25), .ref (aMo 26), .ref (aMo 27), .ref (aMo 28), .ref (aMo 29), .int (zI mo_maybes), .int (zI mo_days), .int (zI mo_over2), .int (zI mo_longer), .ref (aMo 34)])), ((aMo 3), .inl (ca 0, 11, .inl (zA mo_rules))), ((aMo 14), .inl (ca 0, 20161, .inl (zA mo_driven))), ((aMo 15), .inl (ca 0, 60, .inl (zA mo_runFrom))), ((aMo 16), .inl (ca 0, 60, .inl (zA mo_runTo)))]) := by
  refine ctr_of (lv := [(0, .ref (aMo 0))]) (by decide +kernel) (Nat.le_of_ble_eq_true rfl) rfl (fun Γ hl0 C E hnm => ?_)
  have H53 : ∀ (v1 : Int) (n53 : Nat) (v2 : Int) (v3 : Int) (mo_counted : Int) (mo_isParted : Int), zlp (fX11_open_53 v1 mo_rules mo_driven mo_runFrom mo_runTo mo_size mo_runs) n53 (v2, v3, mo_counted, mo_isParted) = some (r_o, mo_counted_o, mo_isParted_o) → Zd D Γ 0 0 [((aMo 0), .inr (11, [.ref (aMo 1), .int (zI mo_taped), .ref (aMo 3), .ref (aMo 4), .ref (aMo 5), .ref (aMo 6), .ref (aMo 7), .ref (aMo 8), .ref (aMo 9), .ref (aMo 10), .ref (aMo 11), .ref (aMo 12), .ref (aMo 13), .ref (aMo 14), .ref (aMo 15), .ref (aMo 16), .int (zI mo_size), .int (zI mo_runs), .ref (aMo 19), .ref (aMo 20), .ref (aMo 21), .int (zI mo_found), .int (zI mo_counted), .int (zI mo_isParted), .ref (aMo 25), .ref (aMo 26), .ref (aMo 27), .ref (aMo 28), .ref (aMo 29), .int (zI mo_maybes), .int (zI mo_days), .int (zI mo_over2), .int (zI mo_longer), .ref (aMo 34)])), ((aMo 3), .inl (ca 0, 11, .inl (zA mo_rules))), ((aMo 14), .inl (ca 0, 20161, .inl (zA mo_driven))), ((aMo 15), .inl (ca 0, 60, .inl (zA mo_runFrom))), ((aMo 16), .inl (ca 0, 60, .inl (zA mo_runTo)))] 53 [(0, .ref (aMo 0)), (1, .int (zI v1)), (2, .int (zI v2)), (3, .int (zI v3))] [] := by
    intro v1
    intro n53
    induction n53 with
    | zero =>
      intro v2 v3 mo_counted mo_isParted hf
      exact zno hf
    | succ n53 ih53 =>
      have H129 : ∀ (v1 : Int) (v2 : Int) (v3 : Int) (mo_counted : Int) (mo_isParted : Int), fX11_open_129 (zlp (fX11_open_53 v1 mo_rules mo_driven mo_runFrom mo_runTo mo_size mo_runs) n53) v2 v3 mo_counted mo_isParted = some (r_o, mo_counted_o, mo_isParted_o) → Zd D Γ 0 0 [((aMo 0), .inr (11, [.ref (aMo 1), .int (zI mo_taped), .ref (aMo 3), .ref (aMo 4), .ref (aMo 5), .ref (aMo 6), .ref (aMo 7), .ref (aMo 8), .ref (aMo 9), .ref (aMo 10), .ref (aMo 11), .ref (aMo 12), .ref (aMo 13), .ref (aMo 14), .ref (aMo 15), .ref (aMo 16), .int (zI mo_size), .int (zI mo_runs), .ref (aMo 19), .ref (aMo 20), .ref (aMo 21), .int (zI mo_found), .int (zI mo_counted), .int (zI mo_isParted), .ref (aMo 25), .ref (aMo 26), .ref (aMo 27), .ref (aMo 28), .ref (aMo 29), .int (zI mo_maybes), .int (zI mo_days), .int (zI mo_over2), .int (zI mo_longer), .ref (aMo 34)])), ((aMo 3), .inl (ca 0, 11, .inl (zA mo_rules))), ((aMo 14), .inl (ca 0, 20161, .inl (zA mo_driven))), ((aMo 15), .inl (ca 0, 60, .inl (zA mo_runFrom))), ((aMo 16), .inl (ca 0, 60, .inl (zA mo_runTo)))] 129 [(0, .ref (aMo 0)), (1, .int (zI v1)), (2, .int (zI v2)), (3, .int (zI v3))] [] := by
        intro v1 v2 v3 mo_counted mo_isParted hf
        unfold fX11_open_129 at hf
        refine g_iinc (pc := 129) C 3 (lv' := [(3, .int (zI (v3 + 1))), (0, .ref (aMo 0)), (1, .int (zI v1)), (2, .int (zI v2))]) dX11_open_129 rfl (Nat.le_of_ble_eq_true rfl) rfl ?_
        refine g_goto (pc := 132) C (tgt := 53) dX11_open_132 (by decide) ?_
        refine g_sub [0, 1, 2, 3, 4] [1, 2, 3, 0] (by decide) rfl rfl rfl ?_
        exact ih53 _ _ _ _ hf
      intro v2 v3 mo_counted mo_isParted hf
      rw [zlp_s] at hf
      unfold fX11_open_53 at hf
      dsimp only at hf
      refine g_iload_n (pc := 53) C 3 dX11_open_53 rfl rfl ?_
      refine g_iload_n (pc := 54) C 1 dX11_open_54 rfl rfl ?_
      refine g_icmp_ge (pc := 55) C (tgt := 135) dX11_open_55 (by decide) hf (fun hf => ?_) (fun hf => ?_)
      · refine g_aload_n (pc := 135) C 0 dX11_open_135 rfl rfl ?_
        refine g_aload_n (pc := 136) C 0 dX11_open_136 rfl rfl ?_
        refine g_get (pc := 137) C zf_X11_138 0 rfl rfl dX11_open_137 ?_
        refine g_aload_n (pc := 140) C 0 dX11_open_140 rfl rfl ?_
        refine g_iload_n (pc := 141) C 2 dX11_open_141 rfl rfl ?_
        refine g_aload_n (pc := 142) C 0 dX11_open_142 rfl rfl ?_
        refine g_get (pc := 143) C zf_X11_121 0 rfl rfl dX11_open_143 ?_
        obtain ⟨r_146, hc_146, hf⟩ := Option.bind_eq_some_iff.mp hf
        refine g_callV (pc := 146) C hl0 (wr := [((aMo 3), .inl (ca 0, 11, .inl (zA mo_rules))), ((aMo 15), .inl (ca 0, 60, .inl (zA mo_runFrom))), ((aMo 16), .inl (ca 0, 60, .inl (zA mo_runTo)))]) (k' := 0) (n' := 0) (ws' := fun _ => [((aMo 3), .inl (ca 0, 11, .inl (zA mo_rules))), ((aMo 15), .inl (ca 0, 60, .inl (zA mo_runFrom))), ((aMo 16), .inl (ca 0, 60, .inl (zA mo_runTo))), ((aMo 0), .inr (11, [.ref (aMo 1), .int (zI mo_taped), .ref (aMo 3), .ref (aMo 4), .ref (aMo 5), .ref (aMo 6), .ref (aMo 7), .ref (aMo 8), .ref (aMo 9), .ref (aMo 10), .ref (aMo 11), .ref (aMo 12), .ref (aMo 13), .ref (aMo 14), .ref (aMo 15), .ref (aMo 16), .int (zI mo_size), .int (zI mo_runs), .ref (aMo 19), .ref (aMo 20), .ref (aMo 21), .int (zI mo_found), .int (zI mo_counted), .int (zI mo_isParted), .ref (aMo 25), .ref (aMo 26), .ref (aMo 27), .ref (aMo 28), .ref (aMo 29), .int (zI mo_maybes), .int (zI mo_days), .int (zI mo_over2), .int (zI mo_longer), .ref (aMo 34)])), ((aMo 14), .inl (ca 0, 20161, .inl (zA mo_driven)))]) (st' := [.int (zI r_146), .int (zI mo_counted), .ref (aMo 0)]) (kX11_driveIn l D ca aMo mo_taped mo_driven mo_size mo_runs mo_found mo_counted mo_isParted mo_maybes mo_days mo_over2 mo_longer v2 mo_size r_146 hc_146) wml_RX11_160 wim_X11_driveIn wse_X11_driveIn win_RX11 wco_X11_driveIn (nA := 2) rfl (by decide +kernel)  ⟨(Nat.le_of_ble_eq_true rfl), (Nat.le_of_ble_eq_true rfl)⟩ (Nat.le_refl _) (Nat.le_refl _) rfl (by decide) dX11_open_146 0 11 rfl rfl rfl [0, 2] [1, 3, 4] rfl rfl rfl (by decide) (by decide) (by decide) rfl rfl (fun _ => rfl) rfl (fun _ => ?_)
        refine g_iadd (pc := 149) C dX11_open_149 ?_
        refine g_put (pc := 150) C zf_X11_138 tyX11 tyX11_ok nmX11 (v := .int (zI (mo_counted + r_146))) (ws' := [((aMo 3), .inl (ca 0, 11, .inl (zA mo_rules))), ((aMo 15), .inl (ca 0, 60, .inl (zA mo_runFrom))), ((aMo 16), .inl (ca 0, 60, .inl (zA mo_runTo))), ((aMo 0), .inr (11, [.ref (aMo 1), .int (zI mo_taped), .ref (aMo 3), .ref (aMo 4), .ref (aMo 5), .ref (aMo 6), .ref (aMo 7), .ref (aMo 8), .ref (aMo 9), .ref (aMo 10), .ref (aMo 11), .ref (aMo 12), .ref (aMo 13), .ref (aMo 14), .ref (aMo 15), .ref (aMo 16), .int (zI mo_size), .int (zI mo_runs), .ref (aMo 19), .ref (aMo 20), .ref (aMo 21), .int (zI mo_found), .int (zI (mo_counted + r_146)), .int (zI mo_isParted), .ref (aMo 25), .ref (aMo 26), .ref (aMo 27), .ref (aMo 28), .ref (aMo 29), .int (zI mo_maybes), .int (zI mo_days), .int (zI mo_over2), .int (zI mo_longer), .ref (aMo 34)])), ((aMo 14), .inl (ca 0, 20161, .inl (zA mo_driven)))]) 3 rfl rfl rfl rfl rfl (Nat.le_of_ble_eq_true rfl) rfl rfl dX11_open_150 ?_
        refine g_iload_n (pc := 153) C 1 dX11_open_153 rfl rfl ?_
        refine g_aload_n (pc := 154) C 0 dX11_open_154 rfl rfl ?_
        refine g_get (pc := 155) C zf_X11_128 3 rfl rfl dX11_open_155 ?_
        refine g_icmp_ge (pc := 158) C (tgt := 169) dX11_open_158 (by decide) hf (fun hf => ?_) (fun hf => ?_)
        · refine g_iconst (pc := 169) C dX11_open_169 ?_
          cases hf
          exact g_iret (pc := 170) C E (fun _ => 0) [3, 0, 4, 1, 2] (by decide) rfl rfl (Nat.le_refl _) (Nat.le_refl _) dX11_open_170
        · refine g_aload_n (pc := 161) C 0 dX11_open_161 rfl rfl ?_
          refine g_iload_n (pc := 162) C 1 dX11_open_162 rfl rfl ?_
          obtain ⟨r_163, hc_163, hf⟩ := Option.bind_eq_some_iff.mp hf
          refine g_callV (pc := 163) C hl0 (wr := [((aMo 3), .inl (ca 0, 11, .inl (zA mo_rules))), ((aMo 14), .inl (ca 0, 20161, .inl (zA mo_driven)))]) (k' := 0) (n' := 0) (ws' := fun _ => [((aMo 3), .inl (ca 0, 11, .inl (zA mo_rules))), ((aMo 14), .inl (ca 0, 20161, .inl (zA mo_driven))), ((aMo 0), .inr (11, [.ref (aMo 1), .int (zI mo_taped), .ref (aMo 3), .ref (aMo 4), .ref (aMo 5), .ref (aMo 6), .ref (aMo 7), .ref (aMo 8), .ref (aMo 9), .ref (aMo 10), .ref (aMo 11), .ref (aMo 12), .ref (aMo 13), .ref (aMo 14), .ref (aMo 15), .ref (aMo 16), .int (zI mo_size), .int (zI mo_runs), .ref (aMo 19), .ref (aMo 20), .ref (aMo 21), .int (zI mo_found), .int (zI (mo_counted + r_146)), .int (zI mo_isParted), .ref (aMo 25), .ref (aMo 26), .ref (aMo 27), .ref (aMo 28), .ref (aMo 29), .int (zI mo_maybes), .int (zI mo_days), .int (zI mo_over2), .int (zI mo_longer), .ref (aMo 34)])), ((aMo 15), .inl (ca 0, 60, .inl (zA mo_runFrom))), ((aMo 16), .inl (ca 0, 60, .inl (zA mo_runTo)))]) (st' := [.int (zI r_163)]) (kX11_runLength l D ca aMo mo_taped mo_runFrom mo_runTo mo_size mo_runs mo_found (mo_counted + r_146) mo_isParted mo_maybes mo_days mo_over2 mo_longer v1 r_163 hc_163) wml_RX11_141 wim_X11_runLength wse_X11_runLength win_RX11 wco_X11_runLength (nA := 1) rfl (by decide +kernel)  ⟨(Nat.le_of_ble_eq_true rfl), (Nat.le_of_ble_eq_true rfl)⟩ (Nat.le_refl _) (Nat.le_refl _) rfl (by decide) dX11_open_163 3 11 rfl rfl rfl [3, 1, 2] [0, 4] rfl rfl rfl (by decide) (by decide) (by decide) rfl rfl (fun _ => rfl) rfl (fun _ => ?_)
          refine g_goto (pc := 166) C (tgt := 170) dX11_open_166 (by decide) ?_
          cases hf
          exact g_iret (pc := 170) C E (fun _ => 0) [2, 0, 1, 3, 4] (by decide) rfl rfl (Nat.le_refl _) (Nat.le_refl _) dX11_open_170
      · refine g_aload_n (pc := 58) C 0 dX11_open_58 rfl rfl ?_
        refine g_aload_n (pc := 59) C 0 dX11_open_59 rfl rfl ?_
        refine g_get (pc := 60) C zf_X11_138 0 rfl rfl dX11_open_60 ?_
        refine g_aload_n (pc := 63) C 0 dX11_open_63 rfl rfl ?_
        refine g_iload_n (pc := 64) C 2 dX11_open_64 rfl rfl ?_
        refine g_aload_n (pc := 65) C 0 dX11_open_65 rfl rfl ?_
        refine g_get (pc := 66) C zf_X11_53 0 rfl rfl dX11_open_66 ?_
        refine g_iload_n (pc := 69) C 3 dX11_open_69 rfl rfl ?_
        refine g_iald (pc := 70) C (N := 60) 4 rfl rfl (Nat.le_of_ble_eq_true rfl) dX11_open_70 hf (fun hf => ?_)
        obtain ⟨r_71, hc_71, hf⟩ := Option.bind_eq_some_iff.mp hf
        refine g_callV (pc := 71) C hl0 (wr := [((aMo 3), .inl (ca 0, 11, .inl (zA mo_rules))), ((aMo 15), .inl (ca 0, 60, .inl (zA mo_runFrom))), ((aMo 16), .inl (ca 0, 60, .inl (zA mo_runTo)))]) (k' := 0) (n' := 0) (ws' := fun _ => [((aMo 3), .inl (ca 0, 11, .inl (zA mo_rules))), ((aMo 15), .inl (ca 0, 60, .inl (zA mo_runFrom))), ((aMo 16), .inl (ca 0, 60, .inl (zA mo_runTo))), ((aMo 0), .inr (11, [.ref (aMo 1), .int (zI mo_taped), .ref (aMo 3), .ref (aMo 4), .ref (aMo 5), .ref (aMo 6), .ref (aMo 7), .ref (aMo 8), .ref (aMo 9), .ref (aMo 10), .ref (aMo 11), .ref (aMo 12), .ref (aMo 13), .ref (aMo 14), .ref (aMo 15), .ref (aMo 16), .int (zI mo_size), .int (zI mo_runs), .ref (aMo 19), .ref (aMo 20), .ref (aMo 21), .int (zI mo_found), .int (zI mo_counted), .int (zI mo_isParted), .ref (aMo 25), .ref (aMo 26), .ref (aMo 27), .ref (aMo 28), .ref (aMo 29), .int (zI mo_maybes), .int (zI mo_days), .int (zI mo_over2), .int (zI mo_longer), .ref (aMo 34)])), ((aMo 14), .inl (ca 0, 20161, .inl (zA mo_driven)))]) (st' := [.int (zI r_71), .int (zI mo_counted), .ref (aMo 0)]) (kX11_driveIn l D ca aMo mo_taped mo_driven mo_size mo_runs mo_found mo_counted mo_isParted mo_maybes mo_days mo_over2 mo_longer v2 (mo_runTo v3.toNat) r_71 hc_71) wml_RX11_160 wim_X11_driveIn wse_X11_driveIn win_RX11 wco_X11_driveIn (nA := 2) rfl (by decide +kernel)  ⟨(Nat.le_of_ble_eq_true rfl), (Nat.le_of_ble_eq_true rfl)⟩ (Nat.le_refl _) (Nat.le_refl _) rfl (by decide) dX11_open_71 0 11 rfl rfl rfl [0, 2] [1, 3, 4] rfl rfl rfl (by decide) (by decide) (by decide) rfl rfl (fun _ => rfl) rfl (fun _ => ?_)
        refine g_iadd (pc := 74) C dX11_open_74 ?_
        refine g_put (pc := 75) C zf_X11_138 tyX11 tyX11_ok nmX11 (v := .int (zI (mo_counted + r_71))) (ws' := [((aMo 3), .inl (ca 0, 11, .inl (zA mo_rules))), ((aMo 15), .inl (ca 0, 60, .inl (zA mo_runFrom))), ((aMo 16), .inl (ca 0, 60, .inl (zA mo_runTo))), ((aMo 0), .inr (11, [.ref (aMo 1), .int (zI mo_taped), .ref (aMo 3), .ref (aMo 4), .ref (aMo 5), .ref (aMo 6), .ref (aMo 7), .ref (aMo 8), .ref (aMo 9), .ref (aMo 10), .ref (aMo 11), .ref (aMo 12), .ref (aMo 13), .ref (aMo 14), .ref (aMo 15), .ref (aMo 16), .int (zI mo_size), .int (zI mo_runs), .ref (aMo 19), .ref (aMo 20), .ref (aMo 21), .int (zI mo_found), .int (zI (mo_counted + r_71)), .int (zI mo_isParted), .ref (aMo 25), .ref (aMo 26), .ref (aMo 27), .ref (aMo 28), .ref (aMo 29), .int (zI mo_maybes), .int (zI mo_days), .int (zI mo_over2), .int (zI mo_longer), .ref (aMo 34)])), ((aMo 14), .inl (ca 0, 20161, .inl (zA mo_driven)))]) 3 rfl rfl rfl rfl rfl (Nat.le_of_ble_eq_true rfl) rfl rfl dX11_open_75 ?_
        refine g_aload_n (pc := 78) C 0 dX11_open_78 rfl rfl ?_
        refine g_get (pc := 79) C zf_X11_53 3 rfl rfl dX11_open_79 ?_
        refine g_iload_n (pc := 82) C 3 dX11_open_82 rfl rfl ?_
        refine g_iald (pc := 83) C (N := 60) 2 rfl rfl (Nat.le_of_ble_eq_true rfl) dX11_open_83 hf (fun hf => ?_)
        refine g_istore_n (pc := 84) C (lv' := [(2, .int (zI (mo_runTo v3.toNat))), (0, .ref (aMo 0)), (1, .int (zI v1)), (3, .int (zI v3))]) dX11_open_84 rfl (Nat.le_of_ble_eq_true rfl) rfl ?_
        refine g_aload_n (pc := 85) C 1 dX11_open_85 rfl rfl ?_
        refine g_aload_n (pc := 86) C 1 dX11_open_86 rfl rfl ?_
        refine g_iload_n (pc := 87) C 3 dX11_open_87 rfl rfl ?_
        obtain ⟨r_88, hc_88, hf⟩ := Option.bind_eq_some_iff.mp hf
        refine g_callV (pc := 88) C hl0 (wr := [((aMo 3), .inl (ca 0, 11, .inl (zA mo_rules))), ((aMo 14), .inl (ca 0, 20161, .inl (zA mo_driven)))]) (k' := 0) (n' := 0) (ws' := fun _ => [((aMo 3), .inl (ca 0, 11, .inl (zA mo_rules))), ((aMo 14), .inl (ca 0, 20161, .inl (zA mo_driven))), ((aMo 0), .inr (11, [.ref (aMo 1), .int (zI mo_taped), .ref (aMo 3), .ref (aMo 4), .ref (aMo 5), .ref (aMo 6), .ref (aMo 7), .ref (aMo 8), .ref (aMo 9), .ref (aMo 10), .ref (aMo 11), .ref (aMo 12), .ref (aMo 13), .ref (aMo 14), .ref (aMo 15), .ref (aMo 16), .int (zI mo_size), .int (zI mo_runs), .ref (aMo 19), .ref (aMo 20), .ref (aMo 21), .int (zI mo_found), .int (zI (mo_counted + r_71)), .int (zI mo_isParted), .ref (aMo 25), .ref (aMo 26), .ref (aMo 27), .ref (aMo 28), .ref (aMo 29), .int (zI mo_maybes), .int (zI mo_days), .int (zI mo_over2), .int (zI mo_longer), .ref (aMo 34)])), ((aMo 15), .inl (ca 0, 60, .inl (zA mo_runFrom))), ((aMo 16), .inl (ca 0, 60, .inl (zA mo_runTo)))]) (st' := [.int (zI r_88), .ref (aMo 0)]) (kX11_runLength l D ca aMo mo_taped mo_runFrom mo_runTo mo_size mo_runs mo_found (mo_counted + r_71) mo_isParted mo_maybes mo_days mo_over2 mo_longer v3 r_88 hc_88) wml_RX11_141 wim_X11_runLength wse_X11_runLength win_RX11 wco_X11_runLength (nA := 1) rfl (by decide +kernel)  ⟨(Nat.le_of_ble_eq_true rfl), (Nat.le_of_ble_eq_true rfl)⟩ (Nat.le_refl _) (Nat.le_refl _) rfl (by decide) dX11_open_88 3 11 rfl rfl rfl [3, 1, 2] [0, 4] rfl rfl rfl (by decide) (by decide) (by decide) rfl rfl (fun _ => rfl) rfl (fun _ => ?_)
        obtain ⟨r_91, hc_91, hf⟩ := Option.bind_eq_some_iff.mp hf
        refine g_callV (pc := 91) C hl0 (wr := [((aMo 14), .inl (ca 0, 20161, .inl (zA mo_driven))), ((aMo 15), .inl (ca 0, 60, .inl (zA mo_runFrom))), ((aMo 16), .inl (ca 0, 60, .inl (zA mo_runTo)))]) (k' := 0) (n' := 0) (ws' := fun _ => [((aMo 14), .inl (ca 0, 20161, .inl (zA mo_driven))), ((aMo 15), .inl (ca 0, 60, .inl (zA mo_runFrom))), ((aMo 16), .inl (ca 0, 60, .inl (zA mo_runTo))), ((aMo 0), .inr (11, [.ref (aMo 1), .int (zI mo_taped), .ref (aMo 3), .ref (aMo 4), .ref (aMo 5), .ref (aMo 6), .ref (aMo 7), .ref (aMo 8), .ref (aMo 9), .ref (aMo 10), .ref (aMo 11), .ref (aMo 12), .ref (aMo 13), .ref (aMo 14), .ref (aMo 15), .ref (aMo 16), .int (zI mo_size), .int (zI mo_runs), .ref (aMo 19), .ref (aMo 20), .ref (aMo 21), .int (zI mo_found), .int (zI (mo_counted + r_71)), .int (zI mo_isParted), .ref (aMo 25), .ref (aMo 26), .ref (aMo 27), .ref (aMo 28), .ref (aMo 29), .int (zI mo_maybes), .int (zI mo_days), .int (zI mo_over2), .int (zI mo_longer), .ref (aMo 34)])), ((aMo 3), .inl (ca 0, 11, .inl (zA mo_rules)))]) (st' := [.int (zI r_91)]) (kX11_resets l D ca aMo mo_taped mo_rules mo_size mo_runs mo_found (mo_counted + r_71) mo_isParted mo_maybes mo_days mo_over2 mo_longer r_88 r_91 hc_91) wml_RX11_144 wim_X11_resets wse_X11_resets win_RX11 wco_X11_resets (nA := 1) rfl (by decide +kernel)  ⟨(Nat.le_of_ble_eq_true rfl), (Nat.le_of_ble_eq_true rfl)⟩ (Nat.le_refl _) (Nat.le_refl _) rfl (by decide) dX11_open_91 2 11 rfl rfl rfl [2, 0] [1, 3, 4] rfl rfl rfl (by decide) (by decide) (by decide) rfl rfl (fun _ => rfl) rfl (fun _ => ?_)
        refine g_if_eq (pc := 94) C (tgt := 110) dX11_open_94 (by decide) hf (fun hf => ?_) (fun hf => ?_)
        · refine g_aload_n (pc := 110) C 1 dX11_open_110 rfl rfl ?_
          refine g_iload_n (pc := 111) C 3 dX11_open_111 rfl rfl ?_
          obtain ⟨r_112, hc_112, hf⟩ := Option.bind_eq_some_iff.mp hf
          refine g_callV (pc := 112) C hl0 (wr := [((aMo 14), .inl (ca 0, 20161, .inl (zA mo_driven))), ((aMo 3), .inl (ca 0, 11, .inl (zA mo_rules)))]) (k' := 0) (n' := 0) (ws' := fun _ => [((aMo 14), .inl (ca 0, 20161, .inl (zA mo_driven))), ((aMo 3), .inl (ca 0, 11, .inl (zA mo_rules))), ((aMo 0), .inr (11, [.ref (aMo 1), .int (zI mo_taped), .ref (aMo 3), .ref (aMo 4), .ref (aMo 5), .ref (aMo 6), .ref (aMo 7), .ref (aMo 8), .ref (aMo 9), .ref (aMo 10), .ref (aMo 11), .ref (aMo 12), .ref (aMo 13), .ref (aMo 14), .ref (aMo 15), .ref (aMo 16), .int (zI mo_size), .int (zI mo_runs), .ref (aMo 19), .ref (aMo 20), .ref (aMo 21), .int (zI mo_found), .int (zI (mo_counted + r_71)), .int (zI mo_isParted), .ref (aMo 25), .ref (aMo 26), .ref (aMo 27), .ref (aMo 28), .ref (aMo 29), .int (zI mo_maybes), .int (zI mo_days), .int (zI mo_over2), .int (zI mo_longer), .ref (aMo 34)])), ((aMo 15), .inl (ca 0, 60, .inl (zA mo_runFrom))), ((aMo 16), .inl (ca 0, 60, .inl (zA mo_runTo)))]) (st' := [.int (zI r_112)]) (kX11_runLength l D ca aMo mo_taped mo_runFrom mo_runTo mo_size mo_runs mo_found (mo_counted + r_71) mo_isParted mo_maybes mo_days mo_over2 mo_longer v3 r_112 hc_112) wml_RX11_141 wim_X11_runLength wse_X11_runLength win_RX11 wco_X11_runLength (nA := 1) rfl (by decide +kernel)  ⟨(Nat.le_of_ble_eq_true rfl), (Nat.le_of_ble_eq_true rfl)⟩ (Nat.le_refl _) (Nat.le_refl _) rfl (by decide) dX11_open_112 3 11 rfl rfl rfl [3, 1, 2] [0, 4] rfl rfl rfl (by decide) (by decide) (by decide) rfl rfl (fun _ => rfl) rfl (fun _ => ?_)
          refine g_aload_n (pc := 115) C 1 dX11_open_115 rfl rfl ?_
          refine g_get (pc := 116) C zf_X11_13 2 rfl rfl dX11_open_116 ?_
          refine g_iconst (pc := 119) C dX11_open_119 ?_
          refine g_ialdK (pc := 120) C 2 1 rfl rfl (Nat.le_of_ble_eq_true rfl) (Nat.le_of_ble_eq_true rfl) dX11_open_120 ?_
          refine g_icmp_lt (pc := 121) C (tgt := 129) dX11_open_121 (by decide) hf (fun hf => ?_) (fun hf => ?_)
          · refine g_sub [2, 1, 0, 3, 4] [1, 2, 0, 3] (by decide) rfl rfl rfl ?_
            exact H129 _ _ _ _ _ hf
          · refine g_aload_n (pc := 124) C 1 dX11_open_124 rfl rfl ?_
            refine g_iconst (pc := 125) C dX11_open_125 ?_
            refine g_put (pc := 126) C zf_X11_134 tyX11 tyX11_ok nmX11 (v := .int (zI 1)) (ws' := [((aMo 14), .inl (ca 0, 20161, .inl (zA mo_driven))), ((aMo 3), .inl (ca 0, 11, .inl (zA mo_rules))), ((aMo 0), .inr (11, [.ref (aMo 1), .int (zI mo_taped), .ref (aMo 3), .ref (aMo 4), .ref (aMo 5), .ref (aMo 6), .ref (aMo 7), .ref (aMo 8), .ref (aMo 9), .ref (aMo 10), .ref (aMo 11), .ref (aMo 12), .ref (aMo 13), .ref (aMo 14), .ref (aMo 15), .ref (aMo 16), .int (zI mo_size), .int (zI mo_runs), .ref (aMo 19), .ref (aMo 20), .ref (aMo 21), .int (zI mo_found), .int (zI (mo_counted + r_71)), .int (zI 1), .ref (aMo 25), .ref (aMo 26), .ref (aMo 27), .ref (aMo 28), .ref (aMo 29), .int (zI mo_maybes), .int (zI mo_days), .int (zI mo_over2), .int (zI mo_longer), .ref (aMo 34)])), ((aMo 15), .inl (ca 0, 60, .inl (zA mo_runFrom))), ((aMo 16), .inl (ca 0, 60, .inl (zA mo_runTo)))]) 2 rfl rfl rfl (by decide) (by decide) (Nat.le_of_ble_eq_true rfl) rfl rfl dX11_open_126 ?_
            refine g_sub [2, 1, 0, 3, 4] [1, 2, 0, 3] (by decide) rfl rfl rfl ?_
            exact H129 _ _ _ _ _ hf
        · refine g_aload_n (pc := 97) C 1 dX11_open_97 rfl rfl ?_
          refine g_iconst (pc := 98) C dX11_open_98 ?_
          refine g_put (pc := 99) C zf_X11_138 tyX11 tyX11_ok nmX11 (v := .int (zI 0)) (ws' := [((aMo 14), .inl (ca 0, 20161, .inl (zA mo_driven))), ((aMo 15), .inl (ca 0, 60, .inl (zA mo_runFrom))), ((aMo 16), .inl (ca 0, 60, .inl (zA mo_runTo))), ((aMo 0), .inr (11, [.ref (aMo 1), .int (zI mo_taped), .ref (aMo 3), .ref (aMo 4), .ref (aMo 5), .ref (aMo 6), .ref (aMo 7), .ref (aMo 8), .ref (aMo 9), .ref (aMo 10), .ref (aMo 11), .ref (aMo 12), .ref (aMo 13), .ref (aMo 14), .ref (aMo 15), .ref (aMo 16), .int (zI mo_size), .int (zI mo_runs), .ref (aMo 19), .ref (aMo 20), .ref (aMo 21), .int (zI mo_found), .int (zI 0), .int (zI mo_isParted), .ref (aMo 25), .ref (aMo 26), .ref (aMo 27), .ref (aMo 28), .ref (aMo 29), .int (zI mo_maybes), .int (zI mo_days), .int (zI mo_over2), .int (zI mo_longer), .ref (aMo 34)])), ((aMo 3), .inl (ca 0, 11, .inl (zA mo_rules)))]) 3 rfl rfl rfl rfl rfl (Nat.le_of_ble_eq_true rfl) rfl rfl dX11_open_99 ?_
          refine g_aload_n (pc := 102) C 1 dX11_open_102 rfl rfl ?_
          refine g_iconst (pc := 103) C dX11_open_103 ?_
          refine g_put (pc := 104) C zf_X11_134 tyX11 tyX11_ok nmX11 (v := .int (zI 0)) (ws' := [((aMo 14), .inl (ca 0, 20161, .inl (zA mo_driven))), ((aMo 15), .inl (ca 0, 60, .inl (zA mo_runFrom))), ((aMo 16), .inl (ca 0, 60, .inl (zA mo_runTo))), ((aMo 0), .inr (11, [.ref (aMo 1), .int (zI mo_taped), .ref (aMo 3), .ref (aMo 4), .ref (aMo 5), .ref (aMo 6), .ref (aMo 7), .ref (aMo 8), .ref (aMo 9), .ref (aMo 10), .ref (aMo 11), .ref (aMo 12), .ref (aMo 13), .ref (aMo 14), .ref (aMo 15), .ref (aMo 16), .int (zI mo_size), .int (zI mo_runs), .ref (aMo 19), .ref (aMo 20), .ref (aMo 21), .int (zI mo_found), .int (zI 0), .int (zI 0), .ref (aMo 25), .ref (aMo 26), .ref (aMo 27), .ref (aMo 28), .ref (aMo 29), .int (zI mo_maybes), .int (zI mo_days), .int (zI mo_over2), .int (zI mo_longer), .ref (aMo 34)])), ((aMo 3), .inl (ca 0, 11, .inl (zA mo_rules)))]) 3 rfl rfl rfl (by decide) (by decide) (Nat.le_of_ble_eq_true rfl) rfl rfl dX11_open_104 ?_
          refine g_goto (pc := 107) C (tgt := 129) dX11_open_107 (by decide) ?_
          refine g_sub [3, 4, 0, 1, 2] [1, 2, 0, 3] (by decide) rfl rfl rfl ?_
          exact H129 _ _ _ _ _ hf
  have H38 : ∀ (s0 : Int) (mo_counted : Int) (mo_isParted : Int), fX11_open_38 s0 mo_rules mo_driven mo_runFrom mo_runTo mo_size mo_runs = some (r_o, mo_counted_o, mo_isParted_o) → Zd D Γ 0 0 [((aMo 0), .inr (11, [.ref (aMo 1), .int (zI mo_taped), .ref (aMo 3), .ref (aMo 4), .ref (aMo 5), .ref (aMo 6), .ref (aMo 7), .ref (aMo 8), .ref (aMo 9), .ref (aMo 10), .ref (aMo 11), .ref (aMo 12), .ref (aMo 13), .ref (aMo 14), .ref (aMo 15), .ref (aMo 16), .int (zI mo_size), .int (zI mo_runs), .ref (aMo 19), .ref (aMo 20), .ref (aMo 21), .int (zI mo_found), .int (zI mo_counted), .int (zI mo_isParted), .ref (aMo 25), .ref (aMo 26), .ref (aMo 27), .ref (aMo 28), .ref (aMo 29), .int (zI mo_maybes), .int (zI mo_days), .int (zI mo_over2), .int (zI mo_longer), .ref (aMo 34)])), ((aMo 3), .inl (ca 0, 11, .inl (zA mo_rules))), ((aMo 14), .inl (ca 0, 20161, .inl (zA mo_driven))), ((aMo 15), .inl (ca 0, 60, .inl (zA mo_runFrom))), ((aMo 16), .inl (ca 0, 60, .inl (zA mo_runTo)))] 38 [(0, .ref (aMo 0))] [.int (zI s0)] := by
    intro s0 mo_counted mo_isParted hf
    unfold fX11_open_38 at hf
    refine g_istore_n (pc := 38) C (lv' := [(1, .int (zI s0)), (0, .ref (aMo 0))]) dX11_open_38 rfl (Nat.le_of_ble_eq_true rfl) rfl ?_
    refine g_iconst (pc := 39) C dX11_open_39 ?_
    refine g_istore_n (pc := 40) C (lv' := [(2, .int (zI 0)), (1, .int (zI s0)), (0, .ref (aMo 0))]) dX11_open_40 rfl (Nat.le_of_ble_eq_true rfl) rfl ?_
    refine g_aload_n (pc := 41) C 2 dX11_open_41 rfl rfl ?_
    refine g_iconst (pc := 42) C dX11_open_42 ?_
    refine g_put (pc := 43) C zf_X11_138 tyX11 tyX11_ok nmX11 (v := .int (zI 0)) (ws' := [((aMo 0), .inr (11, [.ref (aMo 1), .int (zI mo_taped), .ref (aMo 3), .ref (aMo 4), .ref (aMo 5), .ref (aMo 6), .ref (aMo 7), .ref (aMo 8), .ref (aMo 9), .ref (aMo 10), .ref (aMo 11), .ref (aMo 12), .ref (aMo 13), .ref (aMo 14), .ref (aMo 15), .ref (aMo 16), .int (zI mo_size), .int (zI mo_runs), .ref (aMo 19), .ref (aMo 20), .ref (aMo 21), .int (zI mo_found), .int (zI 0), .int (zI mo_isParted), .ref (aMo 25), .ref (aMo 26), .ref (aMo 27), .ref (aMo 28), .ref (aMo 29), .int (zI mo_maybes), .int (zI mo_days), .int (zI mo_over2), .int (zI mo_longer), .ref (aMo 34)])), ((aMo 3), .inl (ca 0, 11, .inl (zA mo_rules))), ((aMo 14), .inl (ca 0, 20161, .inl (zA mo_driven))), ((aMo 15), .inl (ca 0, 60, .inl (zA mo_runFrom))), ((aMo 16), .inl (ca 0, 60, .inl (zA mo_runTo)))]) 0 rfl rfl rfl rfl rfl (Nat.le_of_ble_eq_true rfl) rfl rfl dX11_open_43 ?_
    refine g_aload_n (pc := 46) C 2 dX11_open_46 rfl rfl ?_
    refine g_iconst (pc := 47) C dX11_open_47 ?_
    refine g_put (pc := 48) C zf_X11_134 tyX11 tyX11_ok nmX11 (v := .int (zI 0)) (ws' := [((aMo 0), .inr (11, [.ref (aMo 1), .int (zI mo_taped), .ref (aMo 3), .ref (aMo 4), .ref (aMo 5), .ref (aMo 6), .ref (aMo 7), .ref (aMo 8), .ref (aMo 9), .ref (aMo 10), .ref (aMo 11), .ref (aMo 12), .ref (aMo 13), .ref (aMo 14), .ref (aMo 15), .ref (aMo 16), .int (zI mo_size), .int (zI mo_runs), .ref (aMo 19), .ref (aMo 20), .ref (aMo 21), .int (zI mo_found), .int (zI 0), .int (zI 0), .ref (aMo 25), .ref (aMo 26), .ref (aMo 27), .ref (aMo 28), .ref (aMo 29), .int (zI mo_maybes), .int (zI mo_days), .int (zI mo_over2), .int (zI mo_longer), .ref (aMo 34)])), ((aMo 3), .inl (ca 0, 11, .inl (zA mo_rules))), ((aMo 14), .inl (ca 0, 20161, .inl (zA mo_driven))), ((aMo 15), .inl (ca 0, 60, .inl (zA mo_runFrom))), ((aMo 16), .inl (ca 0, 60, .inl (zA mo_runTo)))]) 0 rfl rfl rfl (by decide) (by decide) (Nat.le_of_ble_eq_true rfl) rfl rfl dX11_open_48 ?_
    refine g_iconst (pc := 51) C dX11_open_51 ?_
    refine g_istore_n (pc := 52) C (lv' := [(3, .int (zI 0)), (2, .int (zI 0)), (1, .int (zI s0)), (0, .ref (aMo 0))]) dX11_open_52 rfl (Nat.le_of_ble_eq_true rfl) rfl ?_
    refine g_sub [0, 1, 2, 3, 4] [3, 2, 1, 0] (by decide) rfl rfl rfl ?_
    exact H53 _ _ _ _ _ _ hf
  have H34 : ∀ (mo_counted : Int) (mo_isParted : Int), fX11_open_34 mo_rules mo_driven mo_runFrom mo_runTo mo_size mo_runs = some (r_o, mo_counted_o, mo_isParted_o) → Zd D Γ 0 0 [((aMo 0), .inr (11, [.ref (aMo 1), .int (zI mo_taped), .ref (aMo 3), .ref (aMo 4), .ref (aMo 5), .ref (aMo 6), .ref (aMo 7), .ref (aMo 8), .ref (aMo 9), .ref (aMo 10), .ref (aMo 11), .ref (aMo 12), .ref (aMo 13), .ref (aMo 14), .ref (aMo 15), .ref (aMo 16), .int (zI mo_size), .int (zI mo_runs), .ref (aMo 19), .ref (aMo 20), .ref (aMo 21), .int (zI mo_found), .int (zI mo_counted), .int (zI mo_isParted), .ref (aMo 25), .ref (aMo 26), .ref (aMo 27), .ref (aMo 28), .ref (aMo 29), .int (zI mo_maybes), .int (zI mo_days), .int (zI mo_over2), .int (zI mo_longer), .ref (aMo 34)])), ((aMo 3), .inl (ca 0, 11, .inl (zA mo_rules))), ((aMo 14), .inl (ca 0, 20161, .inl (zA mo_driven))), ((aMo 15), .inl (ca 0, 60, .inl (zA mo_runFrom))), ((aMo 16), .inl (ca 0, 60, .inl (zA mo_runTo)))] 34 [(0, .ref (aMo 0))] [] := by
    intro mo_counted mo_isParted hf
    unfold fX11_open_34 at hf
    refine g_aload_n (pc := 34) C 0 dX11_open_34 rfl rfl ?_
    refine g_get (pc := 35) C zf_X11_128 0 rfl rfl dX11_open_35 ?_
    exact H38 _ _ _ hf
  unfold fX11_open at hf
  refine g_aload_n (pc := 0) C 0 dX11_open_0 rfl rfl ?_
  refine g_get (pc := 1) C zf_X11_128 0 rfl rfl dX11_open_1 ?_
  refine g_if_le (pc := 4) C (tgt := 34) dX11_open_4 (by decide) hf (fun hf => ?_) (fun hf => ?_)
  · exact H34 _ _ hf
  · refine g_aload_n (pc := 7) C 0 dX11_open_7 rfl rfl ?_
    refine g_get (pc := 8) C zf_X11_53 0 rfl rfl dX11_open_8 ?_
    refine g_aload_n (pc := 11) C 0 dX11_open_11 rfl rfl ?_
    refine g_get (pc := 12) C zf_X11_128 0 rfl rfl dX11_open_12 ?_
    refine g_iconst (pc := 15) C dX11_open_15 ?_
    refine g_isub (pc := 16) C dX11_open_16 ?_
    refine g_iald (pc := 17) C (N := 60) 4 rfl rfl (Nat.le_of_ble_eq_true rfl) dX11_open_17 hf (fun hf => ?_)
    refine g_aload_n (pc := 18) C 0 dX11_open_18 rfl rfl ?_
    refine g_get (pc := 19) C zf_X11_121 0 rfl rfl dX11_open_19 ?_
    refine g_icmp_ne (pc := 22) C (tgt := 34) dX11_open_22 (by decide) hf (fun hf => ?_) (fun hf => ?_)
    · exact H34 _ _ hf
    · refine g_aload_n (pc := 25) C 0 dX11_open_25 rfl rfl ?_
      refine g_get (pc := 26) C zf_X11_128 0 rfl rfl dX11_open_26 ?_
      refine g_iconst (pc := 29) C dX11_open_29 ?_
      refine g_isub (pc := 30) C dX11_open_30 ?_
      refine g_goto (pc := 31) C (tgt := 38) dX11_open_31 (by decide) ?_
      exact H38 _ _ _ hf
set_option maxRecDepth 100000 in
theorem kX11_may (l : Launch) (D : va_G) (ca : Nat → ClassId) (aMo : Nat → Nat) (mo_taped : Int) (mo_rules : Nat → Int) (mo_acts : Nat → Int) (mo_kindOf : Nat → Int) (mo_lengthOf : Nat → Int) (mo_laid : Nat → Int) (mo_driven : Nat → Int) (mo_runFrom : Nat → Int) (mo_runTo : Nat → Int) (mo_size : Int) (mo_runs : Int) (mo_found : Int) (mo_counted : Int) (mo_isParted : Int) (mo_maybes : Int) (mo_days : Int) (mo_over2 : Int) (mo_longer : Int) (v1 : Int) (v2 : Int) (r_o : Int) (mo_laid_o : Nat → Int) (mo_driven_o : Nat → Int) (mo_runFrom_o : Nat → Int) (mo_runTo_o : Nat → Int) (mo_size_o : Int) (mo_runs_o : Int) (mo_counted_o : Int) (mo_isParted_o : Int)
    (hf : fX11_may v1 v2 mo_rules mo_acts mo_kindOf mo_lengthOf mo_laid mo_driven mo_runFrom mo_runTo mo_size mo_runs mo_counted mo_isParted = some (r_o, mo_laid_o, mo_driven_o, mo_runFrom_o, mo_runTo_o, mo_size_o, mo_runs_o, mo_counted_o, mo_isParted_o)) : Zc l D ca yX11_may cX11_may 5 (some .int) { frames := 3, cells := 0, slots := 0, locals := 72 } [.ref (aMo 0), .int (zI v1), .int (zI v2)] [((aMo 0), .inr (11, [.ref (aMo 1), .int (zI mo_taped), .ref (aMo 3), .ref (aMo 4), .ref (aMo 5), .ref (aMo 6), .ref (aMo 7), .ref (aMo 8), .ref (aMo 9), .ref (aMo 10), .ref (aMo 11), .ref (aMo 12), .ref (aMo 13), .ref (aMo 14), .ref (aMo 15), .ref (aMo 16), .int (zI mo_size), .int (zI mo_runs), .ref (aMo 19), .ref (aMo 20), .ref (aMo 21), .int (zI mo_found), .int (zI mo_counted), .int (zI mo_isParted), .ref (aMo 25), .ref (aMo 26), .ref (aMo 27), .ref (aMo 28), .ref (aMo 29), .int (zI mo_maybes), .int (zI mo_days), .int (zI mo_over2), .int (zI mo_longer), .ref (aMo 34)])), ((aMo 3), .inl (ca 0, 11, .inl (zA mo_rules))), ((aMo 5), .inl (ca 0, 4, .inl (zA mo_acts))), ((aMo 7), .inl (ca 0, 240, .inl (zA mo_kindOf))), ((aMo 8), .inl (ca 0, 240, .inl (zA mo_lengthOf))), ((aMo 13), .inl (ca 0, 20160, .inl (zA mo_laid))), ((aMo 14), .inl (ca 0, 20161, .inl (zA mo_driven))), ((aMo 15), .inl (ca 0, 60, .inl (zA mo_runFrom))), ((aMo 16), .inl (ca 0, 60, .inl (zA mo_runTo)))] (some (.int (zI r_o))) (fun _ => [((aMo 0), .inr (11, [.ref (aMo 1), .int (zI mo_taped), .ref (aMo 3), .ref (aMo 4), .ref (aMo 5), .ref (aMo 6), .ref (aMo 7), .ref (aMo 8), .ref (aMo 9), .ref (aMo 10), .ref (aMo 11), .ref (aMo 12), .ref (aMo 13), .ref (aMo 14), .ref (aMo 15), .ref (aMo 16), .int (zI mo_size_o), .int (zI mo_runs_o), .ref (aMo 19), .ref (aMo 20), .ref (aMo 21), .int (zI mo_found), .int (zI mo_counted_o), .int (zI mo_isParted_o), .ref (aMo 25), .ref (aMo 26), .ref (aMo 27), .ref (aMo 28), .ref (aMo 29), .int (zI mo_maybes), .int (zI mo_days), .int (zI mo_over2), .int (zI mo_longer), .ref (aMo 34)])), ((aMo 3), .inl (ca 0, 11, .inl (zA mo_rules))), ((aMo 5), .inl (ca 0, 4, .inl (zA mo_acts))), ((aMo 7), .inl (ca 0, 240, .inl (zA mo_kindOf))), ((aMo 8), .inl (ca 0, 240, .inl (zA mo_lengthOf))), ((aMo 13), .inl (ca 0, 20160, .inl (zA mo_laid_o))), ((aMo 14), .inl (ca 0, 20161, .inl (zA mo_driven_o))), ((aMo 15), .inl (ca 0, 60, .inl (zA mo_runFrom_o))), ((aMo 16), .inl (ca 0, 60, .inl (zA mo_runTo_o)))]) := by
  refine ctr_of (lv := [(0, .ref (aMo 0)), (1, .int (zI v1)), (2, .int (zI v2))]) (by decide +kernel) (Nat.le_of_ble_eq_true rfl) rfl (fun Γ hl0 C E hnm => ?_)
  have H40 : ∀ (s0 : Int) (mo_laid : Nat → Int) (mo_driven : Nat → Int) (mo_runFrom : Nat → Int) (mo_runTo : Nat → Int) (mo_size : Int) (mo_runs : Int) (mo_counted : Int) (mo_isParted : Int), fX11_may_40 s0 mo_rules mo_laid mo_driven mo_runFrom mo_runTo mo_size mo_runs mo_counted mo_isParted = some (r_o, mo_laid_o, mo_driven_o, mo_runFrom_o, mo_runTo_o, mo_size_o, mo_runs_o, mo_counted_o, mo_isParted_o) → Zd D Γ 0 0 [((aMo 0), .inr (11, [.ref (aMo 1), .int (zI mo_taped), .ref (aMo 3), .ref (aMo 4), .ref (aMo 5), .ref (aMo 6), .ref (aMo 7), .ref (aMo 8), .ref (aMo 9), .ref (aMo 10), .ref (aMo 11), .ref (aMo 12), .ref (aMo 13), .ref (aMo 14), .ref (aMo 15), .ref (aMo 16), .int (zI mo_size), .int (zI mo_runs), .ref (aMo 19), .ref (aMo 20), .ref (aMo 21), .int (zI mo_found), .int (zI mo_counted), .int (zI mo_isParted), .ref (aMo 25), .ref (aMo 26), .ref (aMo 27), .ref (aMo 28), .ref (aMo 29), .int (zI mo_maybes), .int (zI mo_days), .int (zI mo_over2), .int (zI mo_longer), .ref (aMo 34)])), ((aMo 3), .inl (ca 0, 11, .inl (zA mo_rules))), ((aMo 5), .inl (ca 0, 4, .inl (zA mo_acts))), ((aMo 7), .inl (ca 0, 240, .inl (zA mo_kindOf))), ((aMo 8), .inl (ca 0, 240, .inl (zA mo_lengthOf))), ((aMo 13), .inl (ca 0, 20160, .inl (zA mo_laid))), ((aMo 14), .inl (ca 0, 20161, .inl (zA mo_driven))), ((aMo 15), .inl (ca 0, 60, .inl (zA mo_runFrom))), ((aMo 16), .inl (ca 0, 60, .inl (zA mo_runTo)))] 40 [(0, .ref (aMo 0))] [.int (zI s0)] := by
    intro s0 mo_laid mo_driven mo_runFrom mo_runTo mo_size mo_runs mo_counted mo_isParted hf
    unfold fX11_may_40 at hf
    refine g_istore (pc := 40) C (lv' := [(4, .int (zI s0)), (0, .ref (aMo 0))]) dX11_may_40 (Nat.le_of_ble_eq_true rfl) rfl ?_
    refine g_iload (pc := 42) C 0 dX11_may_42 rfl ?_
    refine g_aload_n (pc := 44) C 1 dX11_may_44 rfl rfl ?_
    refine g_get (pc := 45) C zf_X11_13 0 rfl rfl dX11_may_45 ?_
    refine g_iconst (pc := 48) C dX11_may_48 ?_
    refine g_ialdK (pc := 49) C 0 1 rfl rfl (Nat.le_of_ble_eq_true rfl) (Nat.le_of_ble_eq_true rfl) dX11_may_49 ?_
    refine g_icmp_ge (pc := 50) C (tgt := 65) dX11_may_50 (by decide) hf (fun hf => ?_) (fun hf => ?_)
    · refine g_iconst (pc := 65) C dX11_may_65 ?_
      cases hf
      exact g_iret (pc := 66) C E (fun _ => 0) [0, 1, 2, 3, 4, 5, 6, 7, 8] (by decide) rfl rfl (Nat.le_refl _) (Nat.le_refl _) dX11_may_66
    · refine g_aload_n (pc := 53) C 1 dX11_may_53 rfl rfl ?_
      refine g_get (pc := 54) C zf_X11_13 0 rfl rfl dX11_may_54 ?_
      refine g_iconst (pc := 57) C dX11_may_57 ?_
      refine g_ialdK (pc := 58) C 0 1 rfl rfl (Nat.le_of_ble_eq_true rfl) (Nat.le_of_ble_eq_true rfl) dX11_may_58 ?_
      refine g_iload (pc := 59) C 0 dX11_may_59 rfl ?_
      refine g_isub (pc := 61) C dX11_may_61 ?_
      refine g_goto (pc := 62) C (tgt := 66) dX11_may_62 (by decide) ?_
      cases hf
      exact g_iret (pc := 66) C E (fun _ => 0) [0, 1, 2, 3, 4, 5, 6, 7, 8] (by decide) rfl rfl (Nat.le_refl _) (Nat.le_refl _) dX11_may_66
  have H36 : ∀ (mo_laid : Nat → Int) (mo_driven : Nat → Int) (mo_runFrom : Nat → Int) (mo_runTo : Nat → Int) (mo_size : Int) (mo_runs : Int) (mo_counted : Int) (mo_isParted : Int), fX11_may_36 mo_rules mo_laid mo_driven mo_runFrom mo_runTo mo_size mo_runs mo_counted mo_isParted = some (r_o, mo_laid_o, mo_driven_o, mo_runFrom_o, mo_runTo_o, mo_size_o, mo_runs_o, mo_counted_o, mo_isParted_o) → Zd D Γ 0 0 [((aMo 0), .inr (11, [.ref (aMo 1), .int (zI mo_taped), .ref (aMo 3), .ref (aMo 4), .ref (aMo 5), .ref (aMo 6), .ref (aMo 7), .ref (aMo 8), .ref (aMo 9), .ref (aMo 10), .ref (aMo 11), .ref (aMo 12), .ref (aMo 13), .ref (aMo 14), .ref (aMo 15), .ref (aMo 16), .int (zI mo_size), .int (zI mo_runs), .ref (aMo 19), .ref (aMo 20), .ref (aMo 21), .int (zI mo_found), .int (zI mo_counted), .int (zI mo_isParted), .ref (aMo 25), .ref (aMo 26), .ref (aMo 27), .ref (aMo 28), .ref (aMo 29), .int (zI mo_maybes), .int (zI mo_days), .int (zI mo_over2), .int (zI mo_longer), .ref (aMo 34)])), ((aMo 3), .inl (ca 0, 11, .inl (zA mo_rules))), ((aMo 5), .inl (ca 0, 4, .inl (zA mo_acts))), ((aMo 7), .inl (ca 0, 240, .inl (zA mo_kindOf))), ((aMo 8), .inl (ca 0, 240, .inl (zA mo_lengthOf))), ((aMo 13), .inl (ca 0, 20160, .inl (zA mo_laid))), ((aMo 14), .inl (ca 0, 20161, .inl (zA mo_driven))), ((aMo 15), .inl (ca 0, 60, .inl (zA mo_runFrom))), ((aMo 16), .inl (ca 0, 60, .inl (zA mo_runTo)))] 36 [(0, .ref (aMo 0))] [] := by
    intro mo_laid mo_driven mo_runFrom mo_runTo mo_size mo_runs mo_counted mo_isParted hf
    unfold fX11_may_36 at hf
    refine g_aload_n (pc := 36) C 0 dX11_may_36 rfl rfl ?_
    refine g_get (pc := 37) C zf_X11_138 0 rfl rfl dX11_may_37 ?_
    exact H40 _ _ _ _ _ _ _ _ _ hf
  unfold fX11_may at hf
  refine g_iload_n (pc := 0) C 1 dX11_may_0 rfl rfl ?_
  obtain ⟨r_1, hc_1, hf⟩ := Option.bind_eq_some_iff.mp hf
  refine g_callS (pc := 1) C hl0 (wr := [((aMo 0), .inr (11, [.ref (aMo 1), .int (zI mo_taped), .ref (aMo 3), .ref (aMo 4), .ref (aMo 5), .ref (aMo 6), .ref (aMo 7), .ref (aMo 8), .ref (aMo 9), .ref (aMo 10), .ref (aMo 11), .ref (aMo 12), .ref (aMo 13), .ref (aMo 14), .ref (aMo 15), .ref (aMo 16), .int (zI mo_size), .int (zI mo_runs), .ref (aMo 19), .ref (aMo 20), .ref (aMo 21), .int (zI mo_found), .int (zI mo_counted), .int (zI mo_isParted), .ref (aMo 25), .ref (aMo 26), .ref (aMo 27), .ref (aMo 28), .ref (aMo 29), .int (zI mo_maybes), .int (zI mo_days), .int (zI mo_over2), .int (zI mo_longer), .ref (aMo 34)])), ((aMo 3), .inl (ca 0, 11, .inl (zA mo_rules))), ((aMo 5), .inl (ca 0, 4, .inl (zA mo_acts))), ((aMo 7), .inl (ca 0, 240, .inl (zA mo_kindOf))), ((aMo 8), .inl (ca 0, 240, .inl (zA mo_lengthOf))), ((aMo 13), .inl (ca 0, 20160, .inl (zA mo_laid))), ((aMo 14), .inl (ca 0, 20161, .inl (zA mo_driven))), ((aMo 15), .inl (ca 0, 60, .inl (zA mo_runFrom))), ((aMo 16), .inl (ca 0, 60, .inl (zA mo_runTo)))]) (k' := 0) (n' := 0) (ws' := fun _ => [((aMo 0), .inr (11, [.ref (aMo 1), .int (zI mo_taped), .ref (aMo 3), .ref (aMo 4), .ref (aMo 5), .ref (aMo 6), .ref (aMo 7), .ref (aMo 8), .ref (aMo 9), .ref (aMo 10), .ref (aMo 11), .ref (aMo 12), .ref (aMo 13), .ref (aMo 14), .ref (aMo 15), .ref (aMo 16), .int (zI mo_size), .int (zI mo_runs), .ref (aMo 19), .ref (aMo 20), .ref (aMo 21), .int (zI mo_found), .int (zI mo_counted), .int (zI mo_isParted), .ref (aMo 25), .ref (aMo 26), .ref (aMo 27), .ref (aMo 28), .ref (aMo 29), .int (zI mo_maybes), .int (zI mo_days), .int (zI mo_over2), .int (zI mo_longer), .ref (aMo 34)])), ((aMo 3), .inl (ca 0, 11, .inl (zA mo_rules))), ((aMo 5), .inl (ca 0, 4, .inl (zA mo_acts))), ((aMo 7), .inl (ca 0, 240, .inl (zA mo_kindOf))), ((aMo 8), .inl (ca 0, 240, .inl (zA mo_lengthOf))), ((aMo 13), .inl (ca 0, 20160, .inl (zA mo_laid))), ((aMo 14), .inl (ca 0, 20161, .inl (zA mo_driven))), ((aMo 15), .inl (ca 0, 60, .inl (zA mo_runFrom))), ((aMo 16), .inl (ca 0, 60, .inl (zA mo_runTo)))]) (st' := [.int (zI r_1)]) (kX11_isCard l D ca v1 r_1 hc_1) wml_RX11_110 wst_X11_isCard win_RX11 wco_X11_isCard (nA := 1) rfl (by decide +kernel)  ⟨(Nat.le_of_ble_eq_true rfl), (Nat.le_of_ble_eq_true rfl)⟩ (Nat.le_refl _) (Nat.le_refl _) rfl (by decide) dX11_may_1 [] [0, 1, 2, 3, 4, 5, 6, 7, 8] rfl rfl rfl (by decide) (by decide) (by decide) rfl rfl (fun _ => rfl) rfl (fun _ => ?_)
  refine g_if_ne (pc := 4) C (tgt := 9) dX11_may_4 (by decide) hf (fun hf => ?_) (fun hf => ?_)
  · refine g_aload_n (pc := 9) C 0 dX11_may_9 rfl rfl ?_
    refine g_iload_n (pc := 10) C 1 dX11_may_10 rfl rfl ?_
    refine g_iload_n (pc := 11) C 2 dX11_may_11 rfl rfl ?_
    obtain ⟨⟨mo_laid_12, mo_driven_12, mo_runFrom_12, mo_runTo_12, mo_size_12, mo_runs_12⟩, hc_12, hf⟩ := Option.bind_eq_some_iff.mp hf
    dsimp only at hf
    refine g_callV (pc := 12) C hl0 (wr := [((aMo 3), .inl (ca 0, 11, .inl (zA mo_rules)))]) (k' := 0) (n' := 0) (ws' := fun _ => [((aMo 3), .inl (ca 0, 11, .inl (zA mo_rules))), ((aMo 0), .inr (11, [.ref (aMo 1), .int (zI mo_taped), .ref (aMo 3), .ref (aMo 4), .ref (aMo 5), .ref (aMo 6), .ref (aMo 7), .ref (aMo 8), .ref (aMo 9), .ref (aMo 10), .ref (aMo 11), .ref (aMo 12), .ref (aMo 13), .ref (aMo 14), .ref (aMo 15), .ref (aMo 16), .int (zI mo_size_12), .int (zI mo_runs_12), .ref (aMo 19), .ref (aMo 20), .ref (aMo 21), .int (zI mo_found), .int (zI mo_counted), .int (zI mo_isParted), .ref (aMo 25), .ref (aMo 26), .ref (aMo 27), .ref (aMo 28), .ref (aMo 29), .int (zI mo_maybes), .int (zI mo_days), .int (zI mo_over2), .int (zI mo_longer), .ref (aMo 34)])), ((aMo 5), .inl (ca 0, 4, .inl (zA mo_acts))), ((aMo 7), .inl (ca 0, 240, .inl (zA mo_kindOf))), ((aMo 8), .inl (ca 0, 240, .inl (zA mo_lengthOf))), ((aMo 13), .inl (ca 0, 20160, .inl (zA mo_laid_12))), ((aMo 14), .inl (ca 0, 20161, .inl (zA mo_driven_12))), ((aMo 15), .inl (ca 0, 60, .inl (zA mo_runFrom_12))), ((aMo 16), .inl (ca 0, 60, .inl (zA mo_runTo_12)))]) (st' := []) (kX11_lays l D ca aMo mo_taped mo_acts mo_kindOf mo_lengthOf mo_laid mo_driven mo_runFrom mo_runTo mo_size mo_runs mo_found mo_counted mo_isParted mo_maybes mo_days mo_over2 mo_longer v1 v2 mo_laid_12 mo_driven_12 mo_runFrom_12 mo_runTo_12 mo_size_12 mo_runs_12 hc_12) wml_RX11_198 wim_X11_lays wse_X11_lays win_RX11 wco_X11_lays (nA := 2) rfl (by decide +kernel)  ⟨(Nat.le_of_ble_eq_true rfl), (Nat.le_of_ble_eq_true rfl)⟩ (Nat.le_refl _) (Nat.le_refl _) rfl (by decide) dX11_may_12 0 11 rfl rfl rfl [0, 2, 3, 4, 5, 6, 7, 8] [1] rfl rfl rfl (by decide) (by decide) (by decide) rfl rfl (fun _ => rfl) rfl (fun _ => ?_)
    refine g_aload_n (pc := 15) C 0 dX11_may_15 rfl rfl ?_
    obtain ⟨⟨r_16, mo_counted_16, mo_isParted_16⟩, hc_16, hf⟩ := Option.bind_eq_some_iff.mp hf
    dsimp only at hf
    refine g_callV (pc := 16) C hl0 (wr := [((aMo 5), .inl (ca 0, 4, .inl (zA mo_acts))), ((aMo 7), .inl (ca 0, 240, .inl (zA mo_kindOf))), ((aMo 8), .inl (ca 0, 240, .inl (zA mo_lengthOf))), ((aMo 13), .inl (ca 0, 20160, .inl (zA mo_laid_12)))]) (k' := 0) (n' := 0) (ws' := fun _ => [((aMo 5), .inl (ca 0, 4, .inl (zA mo_acts))), ((aMo 7), .inl (ca 0, 240, .inl (zA mo_kindOf))), ((aMo 8), .inl (ca 0, 240, .inl (zA mo_lengthOf))), ((aMo 13), .inl (ca 0, 20160, .inl (zA mo_laid_12))), ((aMo 0), .inr (11, [.ref (aMo 1), .int (zI mo_taped), .ref (aMo 3), .ref (aMo 4), .ref (aMo 5), .ref (aMo 6), .ref (aMo 7), .ref (aMo 8), .ref (aMo 9), .ref (aMo 10), .ref (aMo 11), .ref (aMo 12), .ref (aMo 13), .ref (aMo 14), .ref (aMo 15), .ref (aMo 16), .int (zI mo_size_12), .int (zI mo_runs_12), .ref (aMo 19), .ref (aMo 20), .ref (aMo 21), .int (zI mo_found), .int (zI mo_counted_16), .int (zI mo_isParted_16), .ref (aMo 25), .ref (aMo 26), .ref (aMo 27), .ref (aMo 28), .ref (aMo 29), .int (zI mo_maybes), .int (zI mo_days), .int (zI mo_over2), .int (zI mo_longer), .ref (aMo 34)])), ((aMo 3), .inl (ca 0, 11, .inl (zA mo_rules))), ((aMo 14), .inl (ca 0, 20161, .inl (zA mo_driven_12))), ((aMo 15), .inl (ca 0, 60, .inl (zA mo_runFrom_12))), ((aMo 16), .inl (ca 0, 60, .inl (zA mo_runTo_12)))]) (st' := [.int (zI r_16)]) (kX11_open l D ca aMo mo_taped mo_rules mo_driven_12 mo_runFrom_12 mo_runTo_12 mo_size_12 mo_runs_12 mo_found mo_counted mo_isParted mo_maybes mo_days mo_over2 mo_longer r_16 mo_counted_16 mo_isParted_16 hc_16) wml_RX11_214 wim_X11_open wse_X11_open win_RX11 wco_X11_open (nA := 0) rfl (by decide +kernel)  ⟨(Nat.le_of_ble_eq_true rfl), (Nat.le_of_ble_eq_true rfl)⟩ (Nat.le_refl _) (Nat.le_refl _) rfl (by decide) dX11_may_16 1 11 rfl rfl rfl [1, 0, 6, 7, 8] [2, 3, 4, 5] rfl rfl rfl (by decide) (by decide) (by decide) rfl rfl (fun _ => rfl) rfl (fun _ => ?_)
    refine g_istore_n (pc := 19) C (lv' := [(3, .int (zI r_16)), (0, .ref (aMo 0)), (1, .int (zI v1)), (2, .int (zI v2))]) dX11_may_19 rfl (Nat.le_of_ble_eq_true rfl) rfl ?_
    refine g_iload_n (pc := 20) C 0 dX11_may_20 rfl rfl ?_
    refine g_if_le (pc := 21) C (tgt := 36) dX11_may_21 (by decide) hf (fun hf => ?_) (fun hf => ?_)
    · refine g_sub [4, 5, 0, 1, 2, 3, 6, 7, 8] [1] (by decide) rfl rfl rfl ?_
      exact H36 _ _ _ _ _ _ _ _ hf
    · refine g_aload_n (pc := 24) C 1 dX11_may_24 rfl rfl ?_
      refine g_iload_n (pc := 25) C 0 dX11_may_25 rfl rfl ?_
      obtain ⟨r_26, hc_26, hf⟩ := Option.bind_eq_some_iff.mp hf
      refine g_callV (pc := 26) C hl0 (wr := [((aMo 5), .inl (ca 0, 4, .inl (zA mo_acts))), ((aMo 7), .inl (ca 0, 240, .inl (zA mo_kindOf))), ((aMo 8), .inl (ca 0, 240, .inl (zA mo_lengthOf))), ((aMo 13), .inl (ca 0, 20160, .inl (zA mo_laid_12))), ((aMo 14), .inl (ca 0, 20161, .inl (zA mo_driven_12))), ((aMo 15), .inl (ca 0, 60, .inl (zA mo_runFrom_12))), ((aMo 16), .inl (ca 0, 60, .inl (zA mo_runTo_12)))]) (k' := 0) (n' := 0) (ws' := fun _ => [((aMo 5), .inl (ca 0, 4, .inl (zA mo_acts))), ((aMo 7), .inl (ca 0, 240, .inl (zA mo_kindOf))), ((aMo 8), .inl (ca 0, 240, .inl (zA mo_lengthOf))), ((aMo 13), .inl (ca 0, 20160, .inl (zA mo_laid_12))), ((aMo 14), .inl (ca 0, 20161, .inl (zA mo_driven_12))), ((aMo 15), .inl (ca 0, 60, .inl (zA mo_runFrom_12))), ((aMo 16), .inl (ca 0, 60, .inl (zA mo_runTo_12))), ((aMo 0), .inr (11, [.ref (aMo 1), .int (zI mo_taped), .ref (aMo 3), .ref (aMo 4), .ref (aMo 5), .ref (aMo 6), .ref (aMo 7), .ref (aMo 8), .ref (aMo 9), .ref (aMo 10), .ref (aMo 11), .ref (aMo 12), .ref (aMo 13), .ref (aMo 14), .ref (aMo 15), .ref (aMo 16), .int (zI mo_size_12), .int (zI mo_runs_12), .ref (aMo 19), .ref (aMo 20), .ref (aMo 21), .int (zI mo_found), .int (zI mo_counted_16), .int (zI mo_isParted_16), .ref (aMo 25), .ref (aMo 26), .ref (aMo 27), .ref (aMo 28), .ref (aMo 29), .int (zI mo_maybes), .int (zI mo_days), .int (zI mo_over2), .int (zI mo_longer), .ref (aMo 34)])), ((aMo 3), .inl (ca 0, 11, .inl (zA mo_rules)))]) (st' := [.int (zI r_26)]) (kX11_resets l D ca aMo mo_taped mo_rules mo_size_12 mo_runs_12 mo_found mo_counted_16 mo_isParted_16 mo_maybes mo_days mo_over2 mo_longer r_16 r_26 hc_26) wml_RX11_144 wim_X11_resets wse_X11_resets win_RX11 wco_X11_resets (nA := 1) rfl (by decide +kernel)  ⟨(Nat.le_of_ble_eq_true rfl), (Nat.le_of_ble_eq_true rfl)⟩ (Nat.le_refl _) (Nat.le_refl _) rfl (by decide) dX11_may_26 4 11 rfl rfl rfl [4, 5] [0, 1, 2, 3, 6, 7, 8] rfl rfl rfl (by decide) (by decide) (by decide) rfl rfl (fun _ => rfl) rfl (fun _ => ?_)
      refine g_if_eq (pc := 29) C (tgt := 36) dX11_may_29 (by decide) hf (fun hf => ?_) (fun hf => ?_)
      · refine g_sub [7, 8, 0, 1, 2, 3, 4, 5, 6] [1] (by decide) rfl rfl rfl ?_
        exact H36 _ _ _ _ _ _ _ _ hf
      · refine g_iconst (pc := 32) C dX11_may_32 ?_
        refine g_goto (pc := 33) C (tgt := 40) dX11_may_33 (by decide) ?_
        refine g_sub [7, 8, 0, 1, 2, 3, 4, 5, 6] [1] (by decide) rfl rfl rfl ?_
        exact H40 _ _ _ _ _ _ _ _ _ hf
  · refine g_iconst (pc := 7) C dX11_may_7 ?_
    cases hf
    exact g_iret (pc := 8) C E (fun _ => 0) [0, 1, 2, 3, 4, 5, 6, 7, 8] (by decide) rfl rfl (Nat.le_refl _) (Nat.le_refl _) dX11_may_8
set_option maxRecDepth 100000 in
theorem kX11_wholeOr (l : Launch) (D : va_G) (ca : Nat → ClassId) (aMo : Nat → Nat) (mo_taped : Int) (mo_rules : Nat → Int) (mo_size : Int) (mo_runs : Int) (mo_found : Int) (mo_counted : Int) (mo_isParted : Int) (mo_maybes : Int) (mo_days : Int) (mo_over2 : Int) (mo_longer : Int) (v1 : Int) (r_o : Int)
    (hf : fX11_wholeOr v1 mo_rules = some r_o) : Zc l D ca yX11_wholeOr cX11_wholeOr 2 (some .int) { frames := 1, cells := 0, slots := 0, locals := 21 } [.ref (aMo 0), .int (zI v1)] [((aMo 0), .inr (11, [.ref (aMo 1), .int (zI mo_taped), .ref (aMo 3), .ref (aMo 4), .ref (aMo 5), .ref (aMo 6), .ref (aMo 7), .ref (aMo 8), .ref (aMo 9), .ref (aMo 10), .ref (aMo 11), .ref (aMo 12), .ref (aMo 13), .ref (aMo 14), .ref (aMo 15), .ref (aMo 16), .int (zI mo_size), .int (zI mo_runs), .ref (aMo 19), .ref (aMo 20), .ref (aMo 21), .int (zI mo_found), .int (zI mo_counted), .int (zI mo_isParted), .ref (aMo 25), .ref (aMo 26), .ref (aMo 27), .ref (aMo 28), .ref (aMo 29), .int (zI mo_maybes), .int (zI mo_days), .int (zI mo_over2), .int (zI mo_longer), .ref (aMo 34)])), ((aMo 3), .inl (ca 0, 11, .inl (zA mo_rules)))] (some (.int (zI r_o))) (fun _ => [((aMo 0), .inr (11, [.ref (aMo 1), .int (zI mo_taped), .ref (aMo 3), .ref (aMo 4), .ref (aMo 5), .ref (aMo 6), .ref (aMo 7), .ref (aMo 8), .ref (aMo 9), .ref (aMo 10), .ref (aMo 11), .ref (aMo 12), .ref (aMo 13), .ref (aMo 14), .ref (aMo 15), .ref (aMo 16), .int (zI mo_size), .int (zI mo_runs), .ref (aMo 19), .ref (aMo 20), .ref (aMo 21), .int (zI mo_found), .int (zI mo_counted), .int (zI mo_isParted), .ref (aMo 25), .ref (aMo 26), .ref (aMo 27), .ref (aMo 28), .ref (aMo 29), .int (zI mo_maybes), .int (zI mo_days), .int (zI mo_over2), .int (zI mo_longer), .ref (aMo 34)])), ((aMo 3), .inl (ca 0, 11, .inl (zA mo_rules)))]) := by
  refine ctr_of (lv := [(0, .ref (aMo 0)), (1, .int (zI v1))]) (by decide +kernel) (Nat.le_of_ble_eq_true rfl) rfl (fun Γ hl0 C E hnm => ?_)
  unfold fX11_wholeOr at hf
  refine g_iload_n (pc := 0) C 1 dX11_wholeOr_0 rfl rfl ?_
  refine g_if_eq (pc := 1) C (tgt := 29) dX11_wholeOr_1 (by decide) hf (fun hf => ?_) (fun hf => ?_)
  · refine g_aload_n (pc := 29) C 0 dX11_wholeOr_29 rfl rfl ?_
    refine g_get (pc := 30) C zf_X11_13 0 rfl rfl dX11_wholeOr_30 ?_
    refine g_iconst (pc := 33) C dX11_wholeOr_33 ?_
    refine g_ialdK (pc := 34) C 1 1 rfl rfl (Nat.le_of_ble_eq_true rfl) (Nat.le_of_ble_eq_true rfl) dX11_wholeOr_34 ?_
    cases hf
    exact g_iret (pc := 35) C E (fun _ => 0) [0, 1] (by decide) rfl rfl (Nat.le_refl _) (Nat.le_refl _) dX11_wholeOr_35
  · refine g_aload_n (pc := 4) C 0 dX11_wholeOr_4 rfl rfl ?_
    refine g_get (pc := 5) C zf_X11_13 0 rfl rfl dX11_wholeOr_5 ?_
    refine g_iconst (pc := 8) C dX11_wholeOr_8 ?_
    refine g_ialdK (pc := 9) C 1 1 rfl rfl (Nat.le_of_ble_eq_true rfl) (Nat.le_of_ble_eq_true rfl) dX11_wholeOr_9 ?_
    refine g_aload_n (pc := 10) C 0 dX11_wholeOr_10 rfl rfl ?_
    refine g_get (pc := 11) C zf_X11_13 0 rfl rfl dX11_wholeOr_11 ?_
    refine g_iconst (pc := 14) C dX11_wholeOr_14 ?_
    refine g_ialdK (pc := 15) C 2 1 rfl rfl (Nat.le_of_ble_eq_true rfl) (Nat.le_of_ble_eq_true rfl) dX11_wholeOr_15 ?_
    refine g_aload_n (pc := 16) C 0 dX11_wholeOr_16 rfl rfl ?_
    refine g_get (pc := 17) C zf_X11_13 0 rfl rfl dX11_wholeOr_17 ?_
    refine g_iconst (pc := 20) C dX11_wholeOr_20 ?_
    refine g_ialdK (pc := 21) C 3 1 rfl rfl (Nat.le_of_ble_eq_true rfl) (Nat.le_of_ble_eq_true rfl) dX11_wholeOr_21 ?_
    refine g_iadd (pc := 22) C dX11_wholeOr_22 ?_
    obtain ⟨r_23, hc_23, hf⟩ := Option.bind_eq_some_iff.mp hf
    refine g_callS (pc := 23) C hl0 (wr := [((aMo 0), .inr (11, [.ref (aMo 1), .int (zI mo_taped), .ref (aMo 3), .ref (aMo 4), .ref (aMo 5), .ref (aMo 6), .ref (aMo 7), .ref (aMo 8), .ref (aMo 9), .ref (aMo 10), .ref (aMo 11), .ref (aMo 12), .ref (aMo 13), .ref (aMo 14), .ref (aMo 15), .ref (aMo 16), .int (zI mo_size), .int (zI mo_runs), .ref (aMo 19), .ref (aMo 20), .ref (aMo 21), .int (zI mo_found), .int (zI mo_counted), .int (zI mo_isParted), .ref (aMo 25), .ref (aMo 26), .ref (aMo 27), .ref (aMo 28), .ref (aMo 29), .int (zI mo_maybes), .int (zI mo_days), .int (zI mo_over2), .int (zI mo_longer), .ref (aMo 34)])), ((aMo 3), .inl (ca 0, 11, .inl (zA mo_rules)))]) (k' := 0) (n' := 0) (ws' := fun _ => [((aMo 0), .inr (11, [.ref (aMo 1), .int (zI mo_taped), .ref (aMo 3), .ref (aMo 4), .ref (aMo 5), .ref (aMo 6), .ref (aMo 7), .ref (aMo 8), .ref (aMo 9), .ref (aMo 10), .ref (aMo 11), .ref (aMo 12), .ref (aMo 13), .ref (aMo 14), .ref (aMo 15), .ref (aMo 16), .int (zI mo_size), .int (zI mo_runs), .ref (aMo 19), .ref (aMo 20), .ref (aMo 21), .int (zI mo_found), .int (zI mo_counted), .int (zI mo_isParted), .ref (aMo 25), .ref (aMo 26), .ref (aMo 27), .ref (aMo 28), .ref (aMo 29), .int (zI mo_maybes), .int (zI mo_days), .int (zI mo_over2), .int (zI mo_longer), .ref (aMo 34)])), ((aMo 3), .inl (ca 0, 11, .inl (zA mo_rules)))]) (st' := [.int (zI r_23)]) (kX11_lesser l D ca (mo_rules 1) ((mo_rules 2) + (mo_rules 3)) r_23 hc_23) wml_RX11_218 wst_X11_lesser win_RX11 wco_X11_lesser (nA := 2) rfl (by decide +kernel)  ⟨(Nat.le_of_ble_eq_true rfl), (Nat.le_of_ble_eq_true rfl)⟩ (Nat.le_refl _) (Nat.le_refl _) rfl (by decide) dX11_wholeOr_23 [] [0, 1] rfl rfl rfl (by decide) (by decide) (by decide) rfl rfl (fun _ => rfl) rfl (fun _ => ?_)
    refine g_goto (pc := 26) C (tgt := 35) dX11_wholeOr_26 (by decide) ?_
    cases hf
    exact g_iret (pc := 35) C E (fun _ => 0) [0, 1] (by decide) rfl rfl (Nat.le_refl _) (Nat.le_refl _) dX11_wholeOr_35
set_option maxRecDepth 100000 in
theorem kX11_mostOf (l : Launch) (D : va_G) (ca : Nat → ClassId) (aMo : Nat → Nat) (mo_taped : Int) (mo_rules : Nat → Int) (mo_size : Int) (mo_runs : Int) (mo_found : Int) (mo_counted : Int) (mo_isParted : Int) (mo_maybes : Int) (mo_days : Int) (mo_over2 : Int) (mo_longer : Int) (v1 : Int) (v2 : Int) (v3 : Int) (r_o : Int)
    (hf : fX11_mostOf v1 v2 v3 mo_rules = some r_o) : Zc l D ca yX11_mostOf cX11_mostOf 7 (some .int) { frames := 2, cells := 0, slots := 0, locals := 42 } [.ref (aMo 0), .int (zI v1), .int (zI v2), .int (zI v3)] [((aMo 0), .inr (11, [.ref (aMo 1), .int (zI mo_taped), .ref (aMo 3), .ref (aMo 4), .ref (aMo 5), .ref (aMo 6), .ref (aMo 7), .ref (aMo 8), .ref (aMo 9), .ref (aMo 10), .ref (aMo 11), .ref (aMo 12), .ref (aMo 13), .ref (aMo 14), .ref (aMo 15), .ref (aMo 16), .int (zI mo_size), .int (zI mo_runs), .ref (aMo 19), .ref (aMo 20), .ref (aMo 21), .int (zI mo_found), .int (zI mo_counted), .int (zI mo_isParted), .ref (aMo 25), .ref (aMo 26), .ref (aMo 27), .ref (aMo 28), .ref (aMo 29), .int (zI mo_maybes), .int (zI mo_days), .int (zI mo_over2), .int (zI mo_longer), .ref (aMo 34)])), ((aMo 3), .inl (ca 0, 11, .inl (zA mo_rules)))] (some (.int (zI r_o))) (fun _ => [((aMo 0), .inr (11, [.ref (aMo 1), .int (zI mo_taped), .ref (aMo 3), .ref (aMo 4), .ref (aMo 5), .ref (aMo 6), .ref (aMo 7), .ref (aMo 8), .ref (aMo 9), .ref (aMo 10), .ref (aMo 11), .ref (aMo 12), .ref (aMo 13), .ref (aMo 14), .ref (aMo 15), .ref (aMo 16), .int (zI mo_size), .int (zI mo_runs), .ref (aMo 19), .ref (aMo 20), .ref (aMo 21), .int (zI mo_found), .int (zI mo_counted), .int (zI mo_isParted), .ref (aMo 25), .ref (aMo 26), .ref (aMo 27), .ref (aMo 28), .ref (aMo 29), .int (zI mo_maybes), .int (zI mo_days), .int (zI mo_over2), .int (zI mo_longer), .ref (aMo 34)])), ((aMo 3), .inl (ca 0, 11, .inl (zA mo_rules)))]) := by
  refine ctr_of (lv := [(0, .ref (aMo 0)), (1, .int (zI v1)), (2, .int (zI v2)), (3, .int (zI v3))]) (by decide +kernel) (Nat.le_of_ble_eq_true rfl) rfl (fun Γ hl0 C E hnm => ?_)
  have H21 : ∀  (n21 : Nat) (v4 : Int) (v5 : Int) (v6 : Int), zlp (fX11_mostOf_21 mo_rules) n21 (v4, v5, v6) = some r_o → Zd D Γ 0 0 [((aMo 0), .inr (11, [.ref (aMo 1), .int (zI mo_taped), .ref (aMo 3), .ref (aMo 4), .ref (aMo 5), .ref (aMo 6), .ref (aMo 7), .ref (aMo 8), .ref (aMo 9), .ref (aMo 10), .ref (aMo 11), .ref (aMo 12), .ref (aMo 13), .ref (aMo 14), .ref (aMo 15), .ref (aMo 16), .int (zI mo_size), .int (zI mo_runs), .ref (aMo 19), .ref (aMo 20), .ref (aMo 21), .int (zI mo_found), .int (zI mo_counted), .int (zI mo_isParted), .ref (aMo 25), .ref (aMo 26), .ref (aMo 27), .ref (aMo 28), .ref (aMo 29), .int (zI mo_maybes), .int (zI mo_days), .int (zI mo_over2), .int (zI mo_longer), .ref (aMo 34)])), ((aMo 3), .inl (ca 0, 11, .inl (zA mo_rules)))] 21 [(0, .ref (aMo 0)), (4, .int (zI v4)), (5, .int (zI v5)), (6, .int (zI v6))] [] := by
    intro n21
    induction n21 with
    | zero =>
      intro v4 v5 v6 hf
      exact zno hf
    | succ n21 ih21 =>
      have H81 : ∀ (v4 : Int) (v5 : Int) (s0 : Int) (s2 : Int), fX11_mostOf_81 (zlp (fX11_mostOf_21 mo_rules) n21) v4 v5 s0 s2 mo_rules = some r_o → Zd D Γ 0 0 [((aMo 0), .inr (11, [.ref (aMo 1), .int (zI mo_taped), .ref (aMo 3), .ref (aMo 4), .ref (aMo 5), .ref (aMo 6), .ref (aMo 7), .ref (aMo 8), .ref (aMo 9), .ref (aMo 10), .ref (aMo 11), .ref (aMo 12), .ref (aMo 13), .ref (aMo 14), .ref (aMo 15), .ref (aMo 16), .int (zI mo_size), .int (zI mo_runs), .ref (aMo 19), .ref (aMo 20), .ref (aMo 21), .int (zI mo_found), .int (zI mo_counted), .int (zI mo_isParted), .ref (aMo 25), .ref (aMo 26), .ref (aMo 27), .ref (aMo 28), .ref (aMo 29), .int (zI mo_maybes), .int (zI mo_days), .int (zI mo_over2), .int (zI mo_longer), .ref (aMo 34)])), ((aMo 3), .inl (ca 0, 11, .inl (zA mo_rules)))] 81 [(0, .ref (aMo 0)), (4, .int (zI v4)), (5, .int (zI v5))] [.int (zI s2), .ref (aMo 0), .int (zI s0)] := by
        intro v4 v5 s0 s2 hf
        unfold fX11_mostOf_81 at hf
        obtain ⟨r_81, hc_81, hf⟩ := Option.bind_eq_some_iff.mp hf
        refine g_callV (pc := 81) C hl0 (wr := []) (k' := 0) (n' := 0) (ws' := fun _ => [((aMo 0), .inr (11, [.ref (aMo 1), .int (zI mo_taped), .ref (aMo 3), .ref (aMo 4), .ref (aMo 5), .ref (aMo 6), .ref (aMo 7), .ref (aMo 8), .ref (aMo 9), .ref (aMo 10), .ref (aMo 11), .ref (aMo 12), .ref (aMo 13), .ref (aMo 14), .ref (aMo 15), .ref (aMo 16), .int (zI mo_size), .int (zI mo_runs), .ref (aMo 19), .ref (aMo 20), .ref (aMo 21), .int (zI mo_found), .int (zI mo_counted), .int (zI mo_isParted), .ref (aMo 25), .ref (aMo 26), .ref (aMo 27), .ref (aMo 28), .ref (aMo 29), .int (zI mo_maybes), .int (zI mo_days), .int (zI mo_over2), .int (zI mo_longer), .ref (aMo 34)])), ((aMo 3), .inl (ca 0, 11, .inl (zA mo_rules)))]) (st' := [.int (zI r_81), .int (zI s0)]) (kX11_wholeOr l D ca aMo mo_taped mo_rules mo_size mo_runs mo_found mo_counted mo_isParted mo_maybes mo_days mo_over2 mo_longer s2 r_81 hc_81) wml_RX11_221 wim_X11_wholeOr wse_X11_wholeOr win_RX11 wco_X11_wholeOr (nA := 1) rfl (by decide +kernel)  ⟨(Nat.le_of_ble_eq_true rfl), (Nat.le_of_ble_eq_true rfl)⟩ (Nat.le_refl _) (Nat.le_refl _) rfl (by decide) dX11_mostOf_81 0 11 rfl rfl rfl [0, 1] [] rfl rfl rfl (by decide) (by decide) (by decide) rfl rfl (fun _ => rfl) rfl (fun _ => ?_)
        refine g_isub (pc := 84) C dX11_mostOf_84 ?_
        refine g_istore (pc := 85) C (lv' := [(6, .int (zI (s0 - r_81))), (0, .ref (aMo 0)), (4, .int (zI v4)), (5, .int (zI v5))]) dX11_mostOf_85 (Nat.le_of_ble_eq_true rfl) rfl ?_
        refine g_goto (pc := 87) C (tgt := 21) dX11_mostOf_87 (by decide) ?_
        refine g_sub [0, 1] [1, 2, 3, 0] (by decide) rfl rfl rfl ?_
        exact ih21 _ _ _ hf
      have H61 : ∀ (v5 : Int) (v6 : Int) (s0 : Int), fX11_mostOf_61 (zlp (fX11_mostOf_21 mo_rules) n21) v5 v6 s0 mo_rules = some r_o → Zd D Γ 0 0 [((aMo 0), .inr (11, [.ref (aMo 1), .int (zI mo_taped), .ref (aMo 3), .ref (aMo 4), .ref (aMo 5), .ref (aMo 6), .ref (aMo 7), .ref (aMo 8), .ref (aMo 9), .ref (aMo 10), .ref (aMo 11), .ref (aMo 12), .ref (aMo 13), .ref (aMo 14), .ref (aMo 15), .ref (aMo 16), .int (zI mo_size), .int (zI mo_runs), .ref (aMo 19), .ref (aMo 20), .ref (aMo 21), .int (zI mo_found), .int (zI mo_counted), .int (zI mo_isParted), .ref (aMo 25), .ref (aMo 26), .ref (aMo 27), .ref (aMo 28), .ref (aMo 29), .int (zI mo_maybes), .int (zI mo_days), .int (zI mo_over2), .int (zI mo_longer), .ref (aMo 34)])), ((aMo 3), .inl (ca 0, 11, .inl (zA mo_rules)))] 61 [(0, .ref (aMo 0)), (5, .int (zI v5)), (6, .int (zI v6))] [.int (zI s0)] := by
        intro v5 v6 s0 hf
        unfold fX11_mostOf_61 at hf
        refine g_istore (pc := 61) C (lv' := [(4, .int (zI s0)), (0, .ref (aMo 0)), (5, .int (zI v5)), (6, .int (zI v6))]) dX11_mostOf_61 (Nat.le_of_ble_eq_true rfl) rfl ?_
        refine g_iload (pc := 63) C 3 dX11_mostOf_63 rfl ?_
        refine g_aload_n (pc := 65) C 1 dX11_mostOf_65 rfl rfl ?_
        refine g_aload_n (pc := 66) C 1 dX11_mostOf_66 rfl rfl ?_
        refine g_get (pc := 67) C zf_X11_13 0 rfl rfl dX11_mostOf_67 ?_
        refine g_iconst (pc := 70) C dX11_mostOf_70 ?_
        refine g_ialdK (pc := 71) C 0 1 rfl rfl (Nat.le_of_ble_eq_true rfl) (Nat.le_of_ble_eq_true rfl) dX11_mostOf_71 ?_
        refine g_iconst (pc := 72) C dX11_mostOf_72 ?_
        refine g_icmp_ler (pc := 73) C (tgt := 80) dX11_mostOf_73 (by decide) (by decide) hf (fun hf => ?_) (fun hf => ?_)
        · refine g_iconst (pc := 80) C dX11_mostOf_80 ?_
          refine g_sub [0, 1] [1, 0, 2] (by decide) rfl rfl rfl ?_
          exact H81 _ _ _ _ hf
        · refine g_iconst (pc := 76) C dX11_mostOf_76 ?_
          refine g_goto (pc := 77) C (tgt := 81) dX11_mostOf_77 (by decide) ?_
          refine g_sub [0, 1] [1, 0, 2] (by decide) rfl rfl rfl ?_
          exact H81 _ _ _ _ hf
      intro v4 v5 v6 hf
      rw [zlp_s] at hf
      unfold fX11_mostOf_21 at hf
      dsimp only at hf
      refine g_iload (pc := 21) C 3 dX11_mostOf_21 rfl ?_
      refine g_if_le (pc := 23) C (tgt := 90) dX11_mostOf_23 (by decide) hf (fun hf => ?_) (fun hf => ?_)
      · refine g_iload (pc := 90) C 1 dX11_mostOf_90 rfl ?_
        cases hf
        exact g_iret (pc := 92) C E (fun _ => 0) [0, 1] (by decide) rfl rfl (Nat.le_refl _) (Nat.le_refl _) dX11_mostOf_92
      · refine g_iload (pc := 26) C 2 dX11_mostOf_26 rfl ?_
        refine g_aload_n (pc := 28) C 0 dX11_mostOf_28 rfl rfl ?_
        refine g_get (pc := 29) C zf_X11_13 0 rfl rfl dX11_mostOf_29 ?_
        refine g_iconst (pc := 32) C dX11_mostOf_32 ?_
        refine g_ialdK (pc := 33) C 0 1 rfl rfl (Nat.le_of_ble_eq_true rfl) (Nat.le_of_ble_eq_true rfl) dX11_mostOf_33 ?_
        refine g_iadd (pc := 34) C dX11_mostOf_34 ?_
        refine g_istore (pc := 35) C (lv' := [(5, .int (zI (v5 + (mo_rules 0)))), (0, .ref (aMo 0)), (4, .int (zI v4)), (6, .int (zI v6))]) dX11_mostOf_35 (Nat.le_of_ble_eq_true rfl) rfl ?_
        refine g_iload (pc := 37) C 0 dX11_mostOf_37 rfl ?_
        refine g_iload (pc := 39) C 3 dX11_mostOf_39 rfl ?_
        obtain ⟨r_41, hc_41, hf⟩ := Option.bind_eq_some_iff.mp hf
        refine g_callS (pc := 41) C hl0 (wr := [((aMo 0), .inr (11, [.ref (aMo 1), .int (zI mo_taped), .ref (aMo 3), .ref (aMo 4), .ref (aMo 5), .ref (aMo 6), .ref (aMo 7), .ref (aMo 8), .ref (aMo 9), .ref (aMo 10), .ref (aMo 11), .ref (aMo 12), .ref (aMo 13), .ref (aMo 14), .ref (aMo 15), .ref (aMo 16), .int (zI mo_size), .int (zI mo_runs), .ref (aMo 19), .ref (aMo 20), .ref (aMo 21), .int (zI mo_found), .int (zI mo_counted), .int (zI mo_isParted), .ref (aMo 25), .ref (aMo 26), .ref (aMo 27), .ref (aMo 28), .ref (aMo 29), .int (zI mo_maybes), .int (zI mo_days), .int (zI mo_over2), .int (zI mo_longer), .ref (aMo 34)])), ((aMo 3), .inl (ca 0, 11, .inl (zA mo_rules)))]) (k' := 0) (n' := 0) (ws' := fun _ => [((aMo 0), .inr (11, [.ref (aMo 1), .int (zI mo_taped), .ref (aMo 3), .ref (aMo 4), .ref (aMo 5), .ref (aMo 6), .ref (aMo 7), .ref (aMo 8), .ref (aMo 9), .ref (aMo 10), .ref (aMo 11), .ref (aMo 12), .ref (aMo 13), .ref (aMo 14), .ref (aMo 15), .ref (aMo 16), .int (zI mo_size), .int (zI mo_runs), .ref (aMo 19), .ref (aMo 20), .ref (aMo 21), .int (zI mo_found), .int (zI mo_counted), .int (zI mo_isParted), .ref (aMo 25), .ref (aMo 26), .ref (aMo 27), .ref (aMo 28), .ref (aMo 29), .int (zI mo_maybes), .int (zI mo_days), .int (zI mo_over2), .int (zI mo_longer), .ref (aMo 34)])), ((aMo 3), .inl (ca 0, 11, .inl (zA mo_rules)))]) (st' := [.int (zI r_41)]) (kX11_lesser l D ca (v5 + (mo_rules 0)) v6 r_41 hc_41) wml_RX11_218 wst_X11_lesser win_RX11 wco_X11_lesser (nA := 2) rfl (by decide +kernel)  ⟨(Nat.le_of_ble_eq_true rfl), (Nat.le_of_ble_eq_true rfl)⟩ (Nat.le_refl _) (Nat.le_refl _) rfl (by decide) dX11_mostOf_41 [] [0, 1] rfl rfl rfl (by decide) (by decide) (by decide) rfl rfl (fun _ => rfl) rfl (fun _ => ?_)
        refine g_iload (pc := 44) C 2 dX11_mostOf_44 rfl ?_
        refine g_icmp_le (pc := 46) C (tgt := 59) dX11_mostOf_46 (by decide) hf (fun hf => ?_) (fun hf => ?_)
        · refine g_iload (pc := 59) C 2 dX11_mostOf_59 rfl ?_
          refine g_sub [0, 1] [1, 0, 3] (by decide) rfl rfl rfl ?_
          exact H61 _ _ _ hf
        · refine g_iload (pc := 49) C 0 dX11_mostOf_49 rfl ?_
          refine g_iload (pc := 51) C 3 dX11_mostOf_51 rfl ?_
          obtain ⟨r_53, hc_53, hf⟩ := Option.bind_eq_some_iff.mp hf
          refine g_callS (pc := 53) C hl0 (wr := [((aMo 0), .inr (11, [.ref (aMo 1), .int (zI mo_taped), .ref (aMo 3), .ref (aMo 4), .ref (aMo 5), .ref (aMo 6), .ref (aMo 7), .ref (aMo 8), .ref (aMo 9), .ref (aMo 10), .ref (aMo 11), .ref (aMo 12), .ref (aMo 13), .ref (aMo 14), .ref (aMo 15), .ref (aMo 16), .int (zI mo_size), .int (zI mo_runs), .ref (aMo 19), .ref (aMo 20), .ref (aMo 21), .int (zI mo_found), .int (zI mo_counted), .int (zI mo_isParted), .ref (aMo 25), .ref (aMo 26), .ref (aMo 27), .ref (aMo 28), .ref (aMo 29), .int (zI mo_maybes), .int (zI mo_days), .int (zI mo_over2), .int (zI mo_longer), .ref (aMo 34)])), ((aMo 3), .inl (ca 0, 11, .inl (zA mo_rules)))]) (k' := 0) (n' := 0) (ws' := fun _ => [((aMo 0), .inr (11, [.ref (aMo 1), .int (zI mo_taped), .ref (aMo 3), .ref (aMo 4), .ref (aMo 5), .ref (aMo 6), .ref (aMo 7), .ref (aMo 8), .ref (aMo 9), .ref (aMo 10), .ref (aMo 11), .ref (aMo 12), .ref (aMo 13), .ref (aMo 14), .ref (aMo 15), .ref (aMo 16), .int (zI mo_size), .int (zI mo_runs), .ref (aMo 19), .ref (aMo 20), .ref (aMo 21), .int (zI mo_found), .int (zI mo_counted), .int (zI mo_isParted), .ref (aMo 25), .ref (aMo 26), .ref (aMo 27), .ref (aMo 28), .ref (aMo 29), .int (zI mo_maybes), .int (zI mo_days), .int (zI mo_over2), .int (zI mo_longer), .ref (aMo 34)])), ((aMo 3), .inl (ca 0, 11, .inl (zA mo_rules)))]) (st' := [.int (zI r_53)]) (kX11_lesser l D ca (v5 + (mo_rules 0)) v6 r_53 hc_53) wml_RX11_218 wst_X11_lesser win_RX11 wco_X11_lesser (nA := 2) rfl (by decide +kernel)  ⟨(Nat.le_of_ble_eq_true rfl), (Nat.le_of_ble_eq_true rfl)⟩ (Nat.le_refl _) (Nat.le_refl _) rfl (by decide) dX11_mostOf_53 [] [0, 1] rfl rfl rfl (by decide) (by decide) (by decide) rfl rfl (fun _ => rfl) rfl (fun _ => ?_)
          refine g_goto (pc := 56) C (tgt := 61) dX11_mostOf_56 (by decide) ?_
          refine g_sub [0, 1] [1, 0, 3] (by decide) rfl rfl rfl ?_
          exact H61 _ _ _ hf
  unfold fX11_mostOf at hf
  refine g_iload_n (pc := 0) C 3 dX11_mostOf_0 rfl rfl ?_
  refine g_if_ge (pc := 1) C (tgt := 6) dX11_mostOf_1 (by decide) hf (fun hf => ?_) (fun hf => ?_)
  · refine g_iload_n (pc := 6) C 1 dX11_mostOf_6 rfl rfl ?_
    refine g_iload_n (pc := 7) C 3 dX11_mostOf_7 rfl rfl ?_
    obtain ⟨r_8, hc_8, hf⟩ := Option.bind_eq_some_iff.mp hf
    refine g_callS (pc := 8) C hl0 (wr := [((aMo 0), .inr (11, [.ref (aMo 1), .int (zI mo_taped), .ref (aMo 3), .ref (aMo 4), .ref (aMo 5), .ref (aMo 6), .ref (aMo 7), .ref (aMo 8), .ref (aMo 9), .ref (aMo 10), .ref (aMo 11), .ref (aMo 12), .ref (aMo 13), .ref (aMo 14), .ref (aMo 15), .ref (aMo 16), .int (zI mo_size), .int (zI mo_runs), .ref (aMo 19), .ref (aMo 20), .ref (aMo 21), .int (zI mo_found), .int (zI mo_counted), .int (zI mo_isParted), .ref (aMo 25), .ref (aMo 26), .ref (aMo 27), .ref (aMo 28), .ref (aMo 29), .int (zI mo_maybes), .int (zI mo_days), .int (zI mo_over2), .int (zI mo_longer), .ref (aMo 34)])), ((aMo 3), .inl (ca 0, 11, .inl (zA mo_rules)))]) (k' := 0) (n' := 0) (ws' := fun _ => [((aMo 0), .inr (11, [.ref (aMo 1), .int (zI mo_taped), .ref (aMo 3), .ref (aMo 4), .ref (aMo 5), .ref (aMo 6), .ref (aMo 7), .ref (aMo 8), .ref (aMo 9), .ref (aMo 10), .ref (aMo 11), .ref (aMo 12), .ref (aMo 13), .ref (aMo 14), .ref (aMo 15), .ref (aMo 16), .int (zI mo_size), .int (zI mo_runs), .ref (aMo 19), .ref (aMo 20), .ref (aMo 21), .int (zI mo_found), .int (zI mo_counted), .int (zI mo_isParted), .ref (aMo 25), .ref (aMo 26), .ref (aMo 27), .ref (aMo 28), .ref (aMo 29), .int (zI mo_maybes), .int (zI mo_days), .int (zI mo_over2), .int (zI mo_longer), .ref (aMo 34)])), ((aMo 3), .inl (ca 0, 11, .inl (zA mo_rules)))]) (st' := [.int (zI r_8)]) (kX11_lesser l D ca v1 v3 r_8 hc_8) wml_RX11_218 wst_X11_lesser win_RX11 wco_X11_lesser (nA := 2) rfl (by decide +kernel)  ⟨(Nat.le_of_ble_eq_true rfl), (Nat.le_of_ble_eq_true rfl)⟩ (Nat.le_refl _) (Nat.le_refl _) rfl (by decide) dX11_mostOf_8 [] [0, 1] rfl rfl rfl (by decide) (by decide) (by decide) rfl rfl (fun _ => rfl) rfl (fun _ => ?_)
    refine g_istore (pc := 11) C (lv' := [(4, .int (zI r_8)), (0, .ref (aMo 0)), (1, .int (zI v1)), (2, .int (zI v2)), (3, .int (zI v3))]) dX11_mostOf_11 (Nat.le_of_ble_eq_true rfl) rfl ?_
    refine g_iload_n (pc := 13) C 2 dX11_mostOf_13 rfl rfl ?_
    refine g_istore (pc := 14) C (lv' := [(5, .int (zI v1)), (4, .int (zI r_8)), (0, .ref (aMo 0)), (1, .int (zI v1)), (2, .int (zI v2)), (3, .int (zI v3))]) dX11_mostOf_14 (Nat.le_of_ble_eq_true rfl) rfl ?_
    refine g_iload_n (pc := 16) C 5 dX11_mostOf_16 rfl rfl ?_
    refine g_iload_n (pc := 17) C 4 dX11_mostOf_17 rfl rfl ?_
    refine g_isub (pc := 18) C dX11_mostOf_18 ?_
    refine g_istore (pc := 19) C (lv' := [(6, .int (zI (v3 - v2))), (5, .int (zI v1)), (4, .int (zI r_8)), (0, .ref (aMo 0)), (1, .int (zI v1)), (2, .int (zI v2)), (3, .int (zI v3))]) dX11_mostOf_19 (Nat.le_of_ble_eq_true rfl) rfl ?_
    refine g_sub [0, 1] [3, 2, 1, 0] (by decide) rfl rfl rfl ?_
    exact H21 _ _ _ _ hf
  · refine g_iconst (pc := 4) C dX11_mostOf_4 ?_
    cases hf
    exact g_iret (pc := 5) C E (fun _ => 0) [0, 1] (by decide) rfl rfl (Nat.le_refl _) (Nat.le_refl _) dX11_mostOf_5
set_option maxRecDepth 100000 in
theorem kX11_most (l : Launch) (D : va_G) (ca : Nat → ClassId) (aMo : Nat → Nat) (mo_taped : Int) (mo_rules : Nat → Int) (mo_acts : Nat → Int) (mo_kindOf : Nat → Int) (mo_lengthOf : Nat → Int) (mo_laid : Nat → Int) (mo_driven : Nat → Int) (mo_runFrom : Nat → Int) (mo_runTo : Nat → Int) (mo_size : Int) (mo_runs : Int) (mo_found : Int) (mo_counted : Int) (mo_isParted : Int) (mo_maybes : Int) (mo_days : Int) (mo_over2 : Int) (mo_longer : Int) (v1 : Int) (v2 : Int) (v3 : Int) (r_o : Int) (mo_laid_o : Nat → Int) (mo_driven_o : Nat → Int) (mo_runFrom_o : Nat → Int) (mo_runTo_o : Nat → Int) (mo_size_o : Int) (mo_runs_o : Int) (mo_counted_o : Int) (mo_isParted_o : Int)
    (hf : fX11_most v1 v2 v3 mo_rules mo_acts mo_kindOf mo_lengthOf mo_laid mo_driven mo_runFrom mo_runTo mo_size mo_runs mo_counted mo_isParted = some (r_o, mo_laid_o, mo_driven_o, mo_runFrom_o, mo_runTo_o, mo_size_o, mo_runs_o, mo_counted_o, mo_isParted_o)) : Zc l D ca yX11_most cX11_most 10 (some .int) { frames := 3, cells := 0, slots := 0, locals := 72 } [.ref (aMo 0), .int (zI v1), .int (zI v2), .int (zI v3)] [((aMo 0), .inr (11, [.ref (aMo 1), .int (zI mo_taped), .ref (aMo 3), .ref (aMo 4), .ref (aMo 5), .ref (aMo 6), .ref (aMo 7), .ref (aMo 8), .ref (aMo 9), .ref (aMo 10), .ref (aMo 11), .ref (aMo 12), .ref (aMo 13), .ref (aMo 14), .ref (aMo 15), .ref (aMo 16), .int (zI mo_size), .int (zI mo_runs), .ref (aMo 19), .ref (aMo 20), .ref (aMo 21), .int (zI mo_found), .int (zI mo_counted), .int (zI mo_isParted), .ref (aMo 25), .ref (aMo 26), .ref (aMo 27), .ref (aMo 28), .ref (aMo 29), .int (zI mo_maybes), .int (zI mo_days), .int (zI mo_over2), .int (zI mo_longer), .ref (aMo 34)])), ((aMo 3), .inl (ca 0, 11, .inl (zA mo_rules))), ((aMo 5), .inl (ca 0, 4, .inl (zA mo_acts))), ((aMo 7), .inl (ca 0, 240, .inl (zA mo_kindOf))), ((aMo 8), .inl (ca 0, 240, .inl (zA mo_lengthOf))), ((aMo 13), .inl (ca 0, 20160, .inl (zA mo_laid))), ((aMo 14), .inl (ca 0, 20161, .inl (zA mo_driven))), ((aMo 15), .inl (ca 0, 60, .inl (zA mo_runFrom))), ((aMo 16), .inl (ca 0, 60, .inl (zA mo_runTo)))] (some (.int (zI r_o))) (fun _ => [((aMo 0), .inr (11, [.ref (aMo 1), .int (zI mo_taped), .ref (aMo 3), .ref (aMo 4), .ref (aMo 5), .ref (aMo 6), .ref (aMo 7), .ref (aMo 8), .ref (aMo 9), .ref (aMo 10), .ref (aMo 11), .ref (aMo 12), .ref (aMo 13), .ref (aMo 14), .ref (aMo 15), .ref (aMo 16), .int (zI mo_size_o), .int (zI mo_runs_o), .ref (aMo 19), .ref (aMo 20), .ref (aMo 21), .int (zI mo_found), .int (zI mo_counted_o), .int (zI mo_isParted_o), .ref (aMo 25), .ref (aMo 26), .ref (aMo 27), .ref (aMo 28), .ref (aMo 29), .int (zI mo_maybes), .int (zI mo_days), .int (zI mo_over2), .int (zI mo_longer), .ref (aMo 34)])), ((aMo 3), .inl (ca 0, 11, .inl (zA mo_rules))), ((aMo 5), .inl (ca 0, 4, .inl (zA mo_acts))), ((aMo 7), .inl (ca 0, 240, .inl (zA mo_kindOf))), ((aMo 8), .inl (ca 0, 240, .inl (zA mo_lengthOf))), ((aMo 13), .inl (ca 0, 20160, .inl (zA mo_laid_o))), ((aMo 14), .inl (ca 0, 20161, .inl (zA mo_driven_o))), ((aMo 15), .inl (ca 0, 60, .inl (zA mo_runFrom_o))), ((aMo 16), .inl (ca 0, 60, .inl (zA mo_runTo_o)))]) := by
  refine ctr_of (lv := [(0, .ref (aMo 0)), (1, .int (zI v1)), (2, .int (zI v2)), (3, .int (zI v3))]) (by decide +kernel) (Nat.le_of_ble_eq_true rfl) rfl (fun Γ hl0 C E hnm => ?_)
  have H18 : ∀ (mo_laid : Nat → Int) (mo_driven : Nat → Int) (mo_runFrom : Nat → Int) (mo_runTo : Nat → Int) (mo_size : Int) (mo_runs : Int) (mo_counted : Int) (mo_isParted : Int), fX11_most_18 mo_laid mo_driven mo_runFrom mo_runTo mo_size mo_runs mo_counted mo_isParted = some (r_o, mo_laid_o, mo_driven_o, mo_runFrom_o, mo_runTo_o, mo_size_o, mo_runs_o, mo_counted_o, mo_isParted_o) → Zd D Γ 0 0 [((aMo 0), .inr (11, [.ref (aMo 1), .int (zI mo_taped), .ref (aMo 3), .ref (aMo 4), .ref (aMo 5), .ref (aMo 6), .ref (aMo 7), .ref (aMo 8), .ref (aMo 9), .ref (aMo 10), .ref (aMo 11), .ref (aMo 12), .ref (aMo 13), .ref (aMo 14), .ref (aMo 15), .ref (aMo 16), .int (zI mo_size), .int (zI mo_runs), .ref (aMo 19), .ref (aMo 20), .ref (aMo 21), .int (zI mo_found), .int (zI mo_counted), .int (zI mo_isParted), .ref (aMo 25), .ref (aMo 26), .ref (aMo 27), .ref (aMo 28), .ref (aMo 29), .int (zI mo_maybes), .int (zI mo_days), .int (zI mo_over2), .int (zI mo_longer), .ref (aMo 34)])), ((aMo 3), .inl (ca 0, 11, .inl (zA mo_rules))), ((aMo 5), .inl (ca 0, 4, .inl (zA mo_acts))), ((aMo 7), .inl (ca 0, 240, .inl (zA mo_kindOf))), ((aMo 8), .inl (ca 0, 240, .inl (zA mo_lengthOf))), ((aMo 13), .inl (ca 0, 20160, .inl (zA mo_laid))), ((aMo 14), .inl (ca 0, 20161, .inl (zA mo_driven))), ((aMo 15), .inl (ca 0, 60, .inl (zA mo_runFrom))), ((aMo 16), .inl (ca 0, 60, .inl (zA mo_runTo)))] 18 [] [] := by
    intro mo_laid mo_driven mo_runFrom mo_runTo mo_size mo_runs mo_counted mo_isParted hf
    unfold fX11_most_18 at hf
    refine g_iconst (pc := 18) C dX11_most_18 ?_
    cases hf
    exact g_iret (pc := 19) C E (fun _ => 0) [0, 1, 2, 3, 4, 5, 6, 7, 8] (by decide) rfl rfl (Nat.le_refl _) (Nat.le_refl _) dX11_most_19
  have H113 : ∀ (s1 : Int) (s2 : Int) (mo_laid : Nat → Int) (mo_driven : Nat → Int) (mo_runFrom : Nat → Int) (mo_runTo : Nat → Int) (mo_size : Int) (mo_runs : Int) (mo_counted : Int) (mo_isParted : Int), fX11_most_113 v3 s1 s2 mo_rules mo_laid mo_driven mo_runFrom mo_runTo mo_size mo_runs mo_counted mo_isParted = some (r_o, mo_laid_o, mo_driven_o, mo_runFrom_o, mo_runTo_o, mo_size_o, mo_runs_o, mo_counted_o, mo_isParted_o) → Zd D Γ 0 0 [((aMo 0), .inr (11, [.ref (aMo 1), .int (zI mo_taped), .ref (aMo 3), .ref (aMo 4), .ref (aMo 5), .ref (aMo 6), .ref (aMo 7), .ref (aMo 8), .ref (aMo 9), .ref (aMo 10), .ref (aMo 11), .ref (aMo 12), .ref (aMo 13), .ref (aMo 14), .ref (aMo 15), .ref (aMo 16), .int (zI mo_size), .int (zI mo_runs), .ref (aMo 19), .ref (aMo 20), .ref (aMo 21), .int (zI mo_found), .int (zI mo_counted), .int (zI mo_isParted), .ref (aMo 25), .ref (aMo 26), .ref (aMo 27), .ref (aMo 28), .ref (aMo 29), .int (zI mo_maybes), .int (zI mo_days), .int (zI mo_over2), .int (zI mo_longer), .ref (aMo 34)])), ((aMo 3), .inl (ca 0, 11, .inl (zA mo_rules))), ((aMo 5), .inl (ca 0, 4, .inl (zA mo_acts))), ((aMo 7), .inl (ca 0, 240, .inl (zA mo_kindOf))), ((aMo 8), .inl (ca 0, 240, .inl (zA mo_lengthOf))), ((aMo 13), .inl (ca 0, 20160, .inl (zA mo_laid))), ((aMo 14), .inl (ca 0, 20161, .inl (zA mo_driven))), ((aMo 15), .inl (ca 0, 60, .inl (zA mo_runFrom))), ((aMo 16), .inl (ca 0, 60, .inl (zA mo_runTo)))] 113 [(3, .int (zI v3))] [.int (zI s2), .int (zI s1), .ref (aMo 0)] := by
    intro s1 s2 mo_laid mo_driven mo_runFrom mo_runTo mo_size mo_runs mo_counted mo_isParted hf
    unfold fX11_most_113 at hf
    refine g_iload_n (pc := 113) C 0 dX11_most_113 rfl rfl ?_
    obtain ⟨r_114, hc_114, hf⟩ := Option.bind_eq_some_iff.mp hf
    refine g_callV (pc := 114) C hl0 (wr := [((aMo 5), .inl (ca 0, 4, .inl (zA mo_acts))), ((aMo 7), .inl (ca 0, 240, .inl (zA mo_kindOf))), ((aMo 8), .inl (ca 0, 240, .inl (zA mo_lengthOf))), ((aMo 13), .inl (ca 0, 20160, .inl (zA mo_laid))), ((aMo 14), .inl (ca 0, 20161, .inl (zA mo_driven))), ((aMo 15), .inl (ca 0, 60, .inl (zA mo_runFrom))), ((aMo 16), .inl (ca 0, 60, .inl (zA mo_runTo)))]) (k' := 0) (n' := 0) (ws' := fun _ => [((aMo 5), .inl (ca 0, 4, .inl (zA mo_acts))), ((aMo 7), .inl (ca 0, 240, .inl (zA mo_kindOf))), ((aMo 8), .inl (ca 0, 240, .inl (zA mo_lengthOf))), ((aMo 13), .inl (ca 0, 20160, .inl (zA mo_laid))), ((aMo 14), .inl (ca 0, 20161, .inl (zA mo_driven))), ((aMo 15), .inl (ca 0, 60, .inl (zA mo_runFrom))), ((aMo 16), .inl (ca 0, 60, .inl (zA mo_runTo))), ((aMo 0), .inr (11, [.ref (aMo 1), .int (zI mo_taped), .ref (aMo 3), .ref (aMo 4), .ref (aMo 5), .ref (aMo 6), .ref (aMo 7), .ref (aMo 8), .ref (aMo 9), .ref (aMo 10), .ref (aMo 11), .ref (aMo 12), .ref (aMo 13), .ref (aMo 14), .ref (aMo 15), .ref (aMo 16), .int (zI mo_size), .int (zI mo_runs), .ref (aMo 19), .ref (aMo 20), .ref (aMo 21), .int (zI mo_found), .int (zI mo_counted), .int (zI mo_isParted), .ref (aMo 25), .ref (aMo 26), .ref (aMo 27), .ref (aMo 28), .ref (aMo 29), .int (zI mo_maybes), .int (zI mo_days), .int (zI mo_over2), .int (zI mo_longer), .ref (aMo 34)])), ((aMo 3), .inl (ca 0, 11, .inl (zA mo_rules)))]) (st' := [.int (zI r_114)]) (kX11_mostOf l D ca aMo mo_taped mo_rules mo_size mo_runs mo_found mo_counted mo_isParted mo_maybes mo_days mo_over2 mo_longer s1 s2 v3 r_114 hc_114) wml_RX11_225 wim_X11_mostOf wse_X11_mostOf win_RX11 wco_X11_mostOf (nA := 3) rfl (by decide +kernel)  ⟨(Nat.le_of_ble_eq_true rfl), (Nat.le_of_ble_eq_true rfl)⟩ (Nat.le_refl _) (Nat.le_refl _) rfl (by decide) dX11_most_114 0 11 rfl rfl rfl [0, 1] [2, 3, 4, 5, 6, 7, 8] rfl rfl rfl (by decide) (by decide) (by decide) rfl rfl (fun _ => rfl) rfl (fun _ => ?_)
    cases hf
    exact g_iret (pc := 117) C E (fun _ => 0) [7, 8, 0, 1, 2, 3, 4, 5, 6] (by decide) rfl rfl (Nat.le_refl _) (Nat.le_refl _) dX11_most_117
  have H110 : ∀ (s1 : Int) (s3 : Int) (mo_laid : Nat → Int) (mo_driven : Nat → Int) (mo_runFrom : Nat → Int) (mo_runTo : Nat → Int) (mo_size : Int) (mo_runs : Int) (mo_counted : Int) (mo_isParted : Int), fX11_most_110 v3 s1 s3 mo_rules mo_laid mo_driven mo_runFrom mo_runTo mo_size mo_runs mo_counted mo_isParted = some (r_o, mo_laid_o, mo_driven_o, mo_runFrom_o, mo_runTo_o, mo_size_o, mo_runs_o, mo_counted_o, mo_isParted_o) → Zd D Γ 0 0 [((aMo 0), .inr (11, [.ref (aMo 1), .int (zI mo_taped), .ref (aMo 3), .ref (aMo 4), .ref (aMo 5), .ref (aMo 6), .ref (aMo 7), .ref (aMo 8), .ref (aMo 9), .ref (aMo 10), .ref (aMo 11), .ref (aMo 12), .ref (aMo 13), .ref (aMo 14), .ref (aMo 15), .ref (aMo 16), .int (zI mo_size), .int (zI mo_runs), .ref (aMo 19), .ref (aMo 20), .ref (aMo 21), .int (zI mo_found), .int (zI mo_counted), .int (zI mo_isParted), .ref (aMo 25), .ref (aMo 26), .ref (aMo 27), .ref (aMo 28), .ref (aMo 29), .int (zI mo_maybes), .int (zI mo_days), .int (zI mo_over2), .int (zI mo_longer), .ref (aMo 34)])), ((aMo 3), .inl (ca 0, 11, .inl (zA mo_rules))), ((aMo 5), .inl (ca 0, 4, .inl (zA mo_acts))), ((aMo 7), .inl (ca 0, 240, .inl (zA mo_kindOf))), ((aMo 8), .inl (ca 0, 240, .inl (zA mo_lengthOf))), ((aMo 13), .inl (ca 0, 20160, .inl (zA mo_laid))), ((aMo 14), .inl (ca 0, 20161, .inl (zA mo_driven))), ((aMo 15), .inl (ca 0, 60, .inl (zA mo_runFrom))), ((aMo 16), .inl (ca 0, 60, .inl (zA mo_runTo)))] 110 [(3, .int (zI v3))] [.int (zI s3), .ref (aMo 0), .int (zI s1), .ref (aMo 0)] := by
    intro s1 s3 mo_laid mo_driven mo_runFrom mo_runTo mo_size mo_runs mo_counted mo_isParted hf
    unfold fX11_most_110 at hf
    obtain ⟨r_110, hc_110, hf⟩ := Option.bind_eq_some_iff.mp hf
    refine g_callV (pc := 110) C hl0 (wr := [((aMo 5), .inl (ca 0, 4, .inl (zA mo_acts))), ((aMo 7), .inl (ca 0, 240, .inl (zA mo_kindOf))), ((aMo 8), .inl (ca 0, 240, .inl (zA mo_lengthOf))), ((aMo 13), .inl (ca 0, 20160, .inl (zA mo_laid))), ((aMo 14), .inl (ca 0, 20161, .inl (zA mo_driven))), ((aMo 15), .inl (ca 0, 60, .inl (zA mo_runFrom))), ((aMo 16), .inl (ca 0, 60, .inl (zA mo_runTo)))]) (k' := 0) (n' := 0) (ws' := fun _ => [((aMo 5), .inl (ca 0, 4, .inl (zA mo_acts))), ((aMo 7), .inl (ca 0, 240, .inl (zA mo_kindOf))), ((aMo 8), .inl (ca 0, 240, .inl (zA mo_lengthOf))), ((aMo 13), .inl (ca 0, 20160, .inl (zA mo_laid))), ((aMo 14), .inl (ca 0, 20161, .inl (zA mo_driven))), ((aMo 15), .inl (ca 0, 60, .inl (zA mo_runFrom))), ((aMo 16), .inl (ca 0, 60, .inl (zA mo_runTo))), ((aMo 0), .inr (11, [.ref (aMo 1), .int (zI mo_taped), .ref (aMo 3), .ref (aMo 4), .ref (aMo 5), .ref (aMo 6), .ref (aMo 7), .ref (aMo 8), .ref (aMo 9), .ref (aMo 10), .ref (aMo 11), .ref (aMo 12), .ref (aMo 13), .ref (aMo 14), .ref (aMo 15), .ref (aMo 16), .int (zI mo_size), .int (zI mo_runs), .ref (aMo 19), .ref (aMo 20), .ref (aMo 21), .int (zI mo_found), .int (zI mo_counted), .int (zI mo_isParted), .ref (aMo 25), .ref (aMo 26), .ref (aMo 27), .ref (aMo 28), .ref (aMo 29), .int (zI mo_maybes), .int (zI mo_days), .int (zI mo_over2), .int (zI mo_longer), .ref (aMo 34)])), ((aMo 3), .inl (ca 0, 11, .inl (zA mo_rules)))]) (st' := [.int (zI r_110), .int (zI s1), .ref (aMo 0)]) (kX11_wholeOr l D ca aMo mo_taped mo_rules mo_size mo_runs mo_found mo_counted mo_isParted mo_maybes mo_days mo_over2 mo_longer s3 r_110 hc_110) wml_RX11_221 wim_X11_wholeOr wse_X11_wholeOr win_RX11 wco_X11_wholeOr (nA := 1) rfl (by decide +kernel)  ⟨(Nat.le_of_ble_eq_true rfl), (Nat.le_of_ble_eq_true rfl)⟩ (Nat.le_refl _) (Nat.le_refl _) rfl (by decide) dX11_most_110 0 11 rfl rfl rfl [0, 1] [2, 3, 4, 5, 6, 7, 8] rfl rfl rfl (by decide) (by decide) (by decide) rfl rfl (fun _ => rfl) rfl (fun _ => ?_)
    refine g_sub [7, 8, 0, 1, 2, 3, 4, 5, 6] [0] (by decide) rfl rfl rfl ?_
    exact H113 _ _ _ _ _ _ _ _ _ _ hf
  have H150 : ∀ (s1 : Int) (s3 : Int) (mo_laid : Nat → Int) (mo_driven : Nat → Int) (mo_runFrom : Nat → Int) (mo_runTo : Nat → Int) (mo_size : Int) (mo_runs : Int) (mo_counted : Int) (mo_isParted : Int), fX11_most_150 v3 s1 s3 mo_rules mo_laid mo_driven mo_runFrom mo_runTo mo_size mo_runs mo_counted mo_isParted = some (r_o, mo_laid_o, mo_driven_o, mo_runFrom_o, mo_runTo_o, mo_size_o, mo_runs_o, mo_counted_o, mo_isParted_o) → Zd D Γ 0 0 [((aMo 0), .inr (11, [.ref (aMo 1), .int (zI mo_taped), .ref (aMo 3), .ref (aMo 4), .ref (aMo 5), .ref (aMo 6), .ref (aMo 7), .ref (aMo 8), .ref (aMo 9), .ref (aMo 10), .ref (aMo 11), .ref (aMo 12), .ref (aMo 13), .ref (aMo 14), .ref (aMo 15), .ref (aMo 16), .int (zI mo_size), .int (zI mo_runs), .ref (aMo 19), .ref (aMo 20), .ref (aMo 21), .int (zI mo_found), .int (zI mo_counted), .int (zI mo_isParted), .ref (aMo 25), .ref (aMo 26), .ref (aMo 27), .ref (aMo 28), .ref (aMo 29), .int (zI mo_maybes), .int (zI mo_days), .int (zI mo_over2), .int (zI mo_longer), .ref (aMo 34)])), ((aMo 3), .inl (ca 0, 11, .inl (zA mo_rules))), ((aMo 5), .inl (ca 0, 4, .inl (zA mo_acts))), ((aMo 7), .inl (ca 0, 240, .inl (zA mo_kindOf))), ((aMo 8), .inl (ca 0, 240, .inl (zA mo_lengthOf))), ((aMo 13), .inl (ca 0, 20160, .inl (zA mo_laid))), ((aMo 14), .inl (ca 0, 20161, .inl (zA mo_driven))), ((aMo 15), .inl (ca 0, 60, .inl (zA mo_runFrom))), ((aMo 16), .inl (ca 0, 60, .inl (zA mo_runTo)))] 150 [(3, .int (zI v3))] [.int (zI s3), .ref (aMo 0), .int (zI s1), .ref (aMo 0)] := by
    intro s1 s3 mo_laid mo_driven mo_runFrom mo_runTo mo_size mo_runs mo_counted mo_isParted hf
    unfold fX11_most_150 at hf
    obtain ⟨r_150, hc_150, hf⟩ := Option.bind_eq_some_iff.mp hf
    refine g_callV (pc := 150) C hl0 (wr := [((aMo 5), .inl (ca 0, 4, .inl (zA mo_acts))), ((aMo 7), .inl (ca 0, 240, .inl (zA mo_kindOf))), ((aMo 8), .inl (ca 0, 240, .inl (zA mo_lengthOf))), ((aMo 13), .inl (ca 0, 20160, .inl (zA mo_laid))), ((aMo 14), .inl (ca 0, 20161, .inl (zA mo_driven))), ((aMo 15), .inl (ca 0, 60, .inl (zA mo_runFrom))), ((aMo 16), .inl (ca 0, 60, .inl (zA mo_runTo)))]) (k' := 0) (n' := 0) (ws' := fun _ => [((aMo 5), .inl (ca 0, 4, .inl (zA mo_acts))), ((aMo 7), .inl (ca 0, 240, .inl (zA mo_kindOf))), ((aMo 8), .inl (ca 0, 240, .inl (zA mo_lengthOf))), ((aMo 13), .inl (ca 0, 20160, .inl (zA mo_laid))), ((aMo 14), .inl (ca 0, 20161, .inl (zA mo_driven))), ((aMo 15), .inl (ca 0, 60, .inl (zA mo_runFrom))), ((aMo 16), .inl (ca 0, 60, .inl (zA mo_runTo))), ((aMo 0), .inr (11, [.ref (aMo 1), .int (zI mo_taped), .ref (aMo 3), .ref (aMo 4), .ref (aMo 5), .ref (aMo 6), .ref (aMo 7), .ref (aMo 8), .ref (aMo 9), .ref (aMo 10), .ref (aMo 11), .ref (aMo 12), .ref (aMo 13), .ref (aMo 14), .ref (aMo 15), .ref (aMo 16), .int (zI mo_size), .int (zI mo_runs), .ref (aMo 19), .ref (aMo 20), .ref (aMo 21), .int (zI mo_found), .int (zI mo_counted), .int (zI mo_isParted), .ref (aMo 25), .ref (aMo 26), .ref (aMo 27), .ref (aMo 28), .ref (aMo 29), .int (zI mo_maybes), .int (zI mo_days), .int (zI mo_over2), .int (zI mo_longer), .ref (aMo 34)])), ((aMo 3), .inl (ca 0, 11, .inl (zA mo_rules)))]) (st' := [.int (zI r_150), .int (zI s1), .ref (aMo 0)]) (kX11_wholeOr l D ca aMo mo_taped mo_rules mo_size mo_runs mo_found mo_counted mo_isParted mo_maybes mo_days mo_over2 mo_longer s3 r_150 hc_150) wml_RX11_221 wim_X11_wholeOr wse_X11_wholeOr win_RX11 wco_X11_wholeOr (nA := 1) rfl (by decide +kernel)  ⟨(Nat.le_of_ble_eq_true rfl), (Nat.le_of_ble_eq_true rfl)⟩ (Nat.le_refl _) (Nat.le_refl _) rfl (by decide) dX11_most_150 0 11 rfl rfl rfl [0, 1] [2, 3, 4, 5, 6, 7, 8] rfl rfl rfl (by decide) (by decide) (by decide) rfl rfl (fun _ => rfl) rfl (fun _ => ?_)
    refine g_iload_n (pc := 153) C 0 dX11_most_153 rfl rfl ?_
    obtain ⟨r_154, hc_154, hf⟩ := Option.bind_eq_some_iff.mp hf
    refine g_callV (pc := 154) C hl0 (wr := [((aMo 5), .inl (ca 0, 4, .inl (zA mo_acts))), ((aMo 7), .inl (ca 0, 240, .inl (zA mo_kindOf))), ((aMo 8), .inl (ca 0, 240, .inl (zA mo_lengthOf))), ((aMo 13), .inl (ca 0, 20160, .inl (zA mo_laid))), ((aMo 14), .inl (ca 0, 20161, .inl (zA mo_driven))), ((aMo 15), .inl (ca 0, 60, .inl (zA mo_runFrom))), ((aMo 16), .inl (ca 0, 60, .inl (zA mo_runTo)))]) (k' := 0) (n' := 0) (ws' := fun _ => [((aMo 5), .inl (ca 0, 4, .inl (zA mo_acts))), ((aMo 7), .inl (ca 0, 240, .inl (zA mo_kindOf))), ((aMo 8), .inl (ca 0, 240, .inl (zA mo_lengthOf))), ((aMo 13), .inl (ca 0, 20160, .inl (zA mo_laid))), ((aMo 14), .inl (ca 0, 20161, .inl (zA mo_driven))), ((aMo 15), .inl (ca 0, 60, .inl (zA mo_runFrom))), ((aMo 16), .inl (ca 0, 60, .inl (zA mo_runTo))), ((aMo 0), .inr (11, [.ref (aMo 1), .int (zI mo_taped), .ref (aMo 3), .ref (aMo 4), .ref (aMo 5), .ref (aMo 6), .ref (aMo 7), .ref (aMo 8), .ref (aMo 9), .ref (aMo 10), .ref (aMo 11), .ref (aMo 12), .ref (aMo 13), .ref (aMo 14), .ref (aMo 15), .ref (aMo 16), .int (zI mo_size), .int (zI mo_runs), .ref (aMo 19), .ref (aMo 20), .ref (aMo 21), .int (zI mo_found), .int (zI mo_counted), .int (zI mo_isParted), .ref (aMo 25), .ref (aMo 26), .ref (aMo 27), .ref (aMo 28), .ref (aMo 29), .int (zI mo_maybes), .int (zI mo_days), .int (zI mo_over2), .int (zI mo_longer), .ref (aMo 34)])), ((aMo 3), .inl (ca 0, 11, .inl (zA mo_rules)))]) (st' := [.int (zI r_154)]) (kX11_mostOf l D ca aMo mo_taped mo_rules mo_size mo_runs mo_found mo_counted mo_isParted mo_maybes mo_days mo_over2 mo_longer s1 r_150 v3 r_154 hc_154) wml_RX11_225 wim_X11_mostOf wse_X11_mostOf win_RX11 wco_X11_mostOf (nA := 3) rfl (by decide +kernel)  ⟨(Nat.le_of_ble_eq_true rfl), (Nat.le_of_ble_eq_true rfl)⟩ (Nat.le_refl _) (Nat.le_refl _) rfl (by decide) dX11_most_154 7 11 rfl rfl rfl [7, 8] [0, 1, 2, 3, 4, 5, 6] rfl rfl rfl (by decide) (by decide) (by decide) rfl rfl (fun _ => rfl) rfl (fun _ => ?_)
    cases hf
    exact g_iret (pc := 157) C E (fun _ => 0) [7, 8, 0, 1, 2, 3, 4, 5, 6] (by decide) rfl rfl (Nat.le_refl _) (Nat.le_refl _) dX11_most_157
  have H320 : ∀ (v4 : Int) (v5 : Int) (v6 : Int) (v7 : Int) (s0 : Int) (mo_laid : Nat → Int) (mo_driven : Nat → Int) (mo_runFrom : Nat → Int) (mo_runTo : Nat → Int) (mo_size : Int) (mo_runs : Int) (mo_counted : Int) (mo_isParted : Int), fX11_most_320 v3 v4 v5 v6 v7 s0 mo_rules mo_laid mo_driven mo_runFrom mo_runTo mo_size mo_runs mo_counted mo_isParted = some (r_o, mo_laid_o, mo_driven_o, mo_runFrom_o, mo_runTo_o, mo_size_o, mo_runs_o, mo_counted_o, mo_isParted_o) → Zd D Γ 0 0 [((aMo 0), .inr (11, [.ref (aMo 1), .int (zI mo_taped), .ref (aMo 3), .ref (aMo 4), .ref (aMo 5), .ref (aMo 6), .ref (aMo 7), .ref (aMo 8), .ref (aMo 9), .ref (aMo 10), .ref (aMo 11), .ref (aMo 12), .ref (aMo 13), .ref (aMo 14), .ref (aMo 15), .ref (aMo 16), .int (zI mo_size), .int (zI mo_runs), .ref (aMo 19), .ref (aMo 20), .ref (aMo 21), .int (zI mo_found), .int (zI mo_counted), .int (zI mo_isParted), .ref (aMo 25), .ref (aMo 26), .ref (aMo 27), .ref (aMo 28), .ref (aMo 29), .int (zI mo_maybes), .int (zI mo_days), .int (zI mo_over2), .int (zI mo_longer), .ref (aMo 34)])), ((aMo 3), .inl (ca 0, 11, .inl (zA mo_rules))), ((aMo 5), .inl (ca 0, 4, .inl (zA mo_acts))), ((aMo 7), .inl (ca 0, 240, .inl (zA mo_kindOf))), ((aMo 8), .inl (ca 0, 240, .inl (zA mo_lengthOf))), ((aMo 13), .inl (ca 0, 20160, .inl (zA mo_laid))), ((aMo 14), .inl (ca 0, 20161, .inl (zA mo_driven))), ((aMo 15), .inl (ca 0, 60, .inl (zA mo_runFrom))), ((aMo 16), .inl (ca 0, 60, .inl (zA mo_runTo)))] 320 [(0, .ref (aMo 0)), (3, .int (zI v3)), (4, .int (zI v4)), (5, .int (zI v5)), (6, .int (zI v6)), (7, .int (zI v7))] [.int (zI s0)] := by
    intro v4 v5 v6 v7 s0 mo_laid mo_driven mo_runFrom mo_runTo mo_size mo_runs mo_counted mo_isParted hf
    unfold fX11_most_320 at hf
    refine g_istore (pc := 320) C (lv' := [(9, .int (zI s0)), (0, .ref (aMo 0)), (3, .int (zI v3)), (4, .int (zI v4)), (5, .int (zI v5)), (6, .int (zI v6)), (7, .int (zI v7))]) dX11_most_320 (Nat.le_of_ble_eq_true rfl) rfl ?_
    refine g_iload (pc := 322) C 0 dX11_most_322 rfl ?_
    refine g_if_eq (pc := 324) C (tgt := 354) dX11_most_324 (by decide) hf (fun hf => ?_) (fun hf => ?_)
    · refine g_iload (pc := 354) C 6 dX11_most_354 rfl ?_
      cases hf
      exact g_iret (pc := 356) C E (fun _ => 0) [0, 1, 2, 3, 4, 5, 6, 7, 8] (by decide) rfl rfl (Nat.le_refl _) (Nat.le_refl _) dX11_most_356
    · refine g_iload (pc := 327) C 6 dX11_most_327 rfl ?_
      refine g_aload_n (pc := 329) C 1 dX11_most_329 rfl rfl ?_
      refine g_iload (pc := 330) C 4 dX11_most_330 rfl ?_
      refine g_iload (pc := 332) C 5 dX11_most_332 rfl ?_
      refine g_iload_n (pc := 334) C 2 dX11_most_334 rfl rfl ?_
      refine g_aload_n (pc := 335) C 1 dX11_most_335 rfl rfl ?_
      refine g_get (pc := 336) C zf_X11_13 0 rfl rfl dX11_most_336 ?_
      refine g_iconst (pc := 339) C dX11_most_339 ?_
      refine g_ialdK (pc := 340) C 2 1 rfl rfl (Nat.le_of_ble_eq_true rfl) (Nat.le_of_ble_eq_true rfl) dX11_most_340 ?_
      refine g_isub (pc := 341) C dX11_most_341 ?_
      refine g_iload (pc := 342) C 3 dX11_most_342 rfl ?_
      refine g_iadd (pc := 344) C dX11_most_344 ?_
      obtain ⟨r_345, hc_345, hf⟩ := Option.bind_eq_some_iff.mp hf
      refine g_callV (pc := 345) C hl0 (wr := [((aMo 5), .inl (ca 0, 4, .inl (zA mo_acts))), ((aMo 7), .inl (ca 0, 240, .inl (zA mo_kindOf))), ((aMo 8), .inl (ca 0, 240, .inl (zA mo_lengthOf))), ((aMo 13), .inl (ca 0, 20160, .inl (zA mo_laid))), ((aMo 14), .inl (ca 0, 20161, .inl (zA mo_driven))), ((aMo 15), .inl (ca 0, 60, .inl (zA mo_runFrom))), ((aMo 16), .inl (ca 0, 60, .inl (zA mo_runTo)))]) (k' := 0) (n' := 0) (ws' := fun _ => [((aMo 5), .inl (ca 0, 4, .inl (zA mo_acts))), ((aMo 7), .inl (ca 0, 240, .inl (zA mo_kindOf))), ((aMo 8), .inl (ca 0, 240, .inl (zA mo_lengthOf))), ((aMo 13), .inl (ca 0, 20160, .inl (zA mo_laid))), ((aMo 14), .inl (ca 0, 20161, .inl (zA mo_driven))), ((aMo 15), .inl (ca 0, 60, .inl (zA mo_runFrom))), ((aMo 16), .inl (ca 0, 60, .inl (zA mo_runTo))), ((aMo 0), .inr (11, [.ref (aMo 1), .int (zI mo_taped), .ref (aMo 3), .ref (aMo 4), .ref (aMo 5), .ref (aMo 6), .ref (aMo 7), .ref (aMo 8), .ref (aMo 9), .ref (aMo 10), .ref (aMo 11), .ref (aMo 12), .ref (aMo 13), .ref (aMo 14), .ref (aMo 15), .ref (aMo 16), .int (zI mo_size), .int (zI mo_runs), .ref (aMo 19), .ref (aMo 20), .ref (aMo 21), .int (zI mo_found), .int (zI mo_counted), .int (zI mo_isParted), .ref (aMo 25), .ref (aMo 26), .ref (aMo 27), .ref (aMo 28), .ref (aMo 29), .int (zI mo_maybes), .int (zI mo_days), .int (zI mo_over2), .int (zI mo_longer), .ref (aMo 34)])), ((aMo 3), .inl (ca 0, 11, .inl (zA mo_rules)))]) (st' := [.int (zI r_345), .int (zI v7)]) (kX11_mostOf l D ca aMo mo_taped mo_rules mo_size mo_runs mo_found mo_counted mo_isParted mo_maybes mo_days mo_over2 mo_longer v5 v6 ((v3 - (mo_rules 2)) + v4) r_345 hc_345) wml_RX11_225 wim_X11_mostOf wse_X11_mostOf win_RX11 wco_X11_mostOf (nA := 3) rfl (by decide +kernel)  ⟨(Nat.le_of_ble_eq_true rfl), (Nat.le_of_ble_eq_true rfl)⟩ (Nat.le_refl _) (Nat.le_refl _) rfl (by decide) dX11_most_345 0 11 rfl rfl rfl [0, 1] [2, 3, 4, 5, 6, 7, 8] rfl rfl rfl (by decide) (by decide) (by decide) rfl rfl (fun _ => rfl) rfl (fun _ => ?_)
      obtain ⟨r_348, hc_348, hf⟩ := Option.bind_eq_some_iff.mp hf
      refine g_callS (pc := 348) C hl0 (wr := [((aMo 5), .inl (ca 0, 4, .inl (zA mo_acts))), ((aMo 7), .inl (ca 0, 240, .inl (zA mo_kindOf))), ((aMo 8), .inl (ca 0, 240, .inl (zA mo_lengthOf))), ((aMo 13), .inl (ca 0, 20160, .inl (zA mo_laid))), ((aMo 14), .inl (ca 0, 20161, .inl (zA mo_driven))), ((aMo 15), .inl (ca 0, 60, .inl (zA mo_runFrom))), ((aMo 16), .inl (ca 0, 60, .inl (zA mo_runTo))), ((aMo 0), .inr (11, [.ref (aMo 1), .int (zI mo_taped), .ref (aMo 3), .ref (aMo 4), .ref (aMo 5), .ref (aMo 6), .ref (aMo 7), .ref (aMo 8), .ref (aMo 9), .ref (aMo 10), .ref (aMo 11), .ref (aMo 12), .ref (aMo 13), .ref (aMo 14), .ref (aMo 15), .ref (aMo 16), .int (zI mo_size), .int (zI mo_runs), .ref (aMo 19), .ref (aMo 20), .ref (aMo 21), .int (zI mo_found), .int (zI mo_counted), .int (zI mo_isParted), .ref (aMo 25), .ref (aMo 26), .ref (aMo 27), .ref (aMo 28), .ref (aMo 29), .int (zI mo_maybes), .int (zI mo_days), .int (zI mo_over2), .int (zI mo_longer), .ref (aMo 34)])), ((aMo 3), .inl (ca 0, 11, .inl (zA mo_rules)))]) (k' := 0) (n' := 0) (ws' := fun _ => [((aMo 5), .inl (ca 0, 4, .inl (zA mo_acts))), ((aMo 7), .inl (ca 0, 240, .inl (zA mo_kindOf))), ((aMo 8), .inl (ca 0, 240, .inl (zA mo_lengthOf))), ((aMo 13), .inl (ca 0, 20160, .inl (zA mo_laid))), ((aMo 14), .inl (ca 0, 20161, .inl (zA mo_driven))), ((aMo 15), .inl (ca 0, 60, .inl (zA mo_runFrom))), ((aMo 16), .inl (ca 0, 60, .inl (zA mo_runTo))), ((aMo 0), .inr (11, [.ref (aMo 1), .int (zI mo_taped), .ref (aMo 3), .ref (aMo 4), .ref (aMo 5), .ref (aMo 6), .ref (aMo 7), .ref (aMo 8), .ref (aMo 9), .ref (aMo 10), .ref (aMo 11), .ref (aMo 12), .ref (aMo 13), .ref (aMo 14), .ref (aMo 15), .ref (aMo 16), .int (zI mo_size), .int (zI mo_runs), .ref (aMo 19), .ref (aMo 20), .ref (aMo 21), .int (zI mo_found), .int (zI mo_counted), .int (zI mo_isParted), .ref (aMo 25), .ref (aMo 26), .ref (aMo 27), .ref (aMo 28), .ref (aMo 29), .int (zI mo_maybes), .int (zI mo_days), .int (zI mo_over2), .int (zI mo_longer), .ref (aMo 34)])), ((aMo 3), .inl (ca 0, 11, .inl (zA mo_rules)))]) (st' := [.int (zI r_348)]) (kX11_greater l D ca v7 r_345 r_348 hc_348) wml_RX11_229 wst_X11_greater win_RX11 wco_X11_greater (nA := 2) rfl (by decide +kernel)  ⟨(Nat.le_of_ble_eq_true rfl), (Nat.le_of_ble_eq_true rfl)⟩ (Nat.le_refl _) (Nat.le_refl _) rfl (by decide) dX11_most_348 [] [0, 1, 2, 3, 4, 5, 6, 7, 8] rfl rfl rfl (by decide) (by decide) (by decide) rfl rfl (fun _ => rfl) rfl (fun _ => ?_)
      refine g_goto (pc := 351) C (tgt := 356) dX11_most_351 (by decide) ?_
      cases hf
      exact g_iret (pc := 356) C E (fun _ => 0) [7, 8, 0, 1, 2, 3, 4, 5, 6] (by decide) rfl rfl (Nat.le_refl _) (Nat.le_refl _) dX11_most_356
  have H319 : ∀ (v4 : Int) (v5 : Int) (v6 : Int) (v7 : Int) (mo_laid : Nat → Int) (mo_driven : Nat → Int) (mo_runFrom : Nat → Int) (mo_runTo : Nat → Int) (mo_size : Int) (mo_runs : Int) (mo_counted : Int) (mo_isParted : Int), fX11_most_319 v3 v4 v5 v6 v7 mo_rules mo_laid mo_driven mo_runFrom mo_runTo mo_size mo_runs mo_counted mo_isParted = some (r_o, mo_laid_o, mo_driven_o, mo_runFrom_o, mo_runTo_o, mo_size_o, mo_runs_o, mo_counted_o, mo_isParted_o) → Zd D Γ 0 0 [((aMo 0), .inr (11, [.ref (aMo 1), .int (zI mo_taped), .ref (aMo 3), .ref (aMo 4), .ref (aMo 5), .ref (aMo 6), .ref (aMo 7), .ref (aMo 8), .ref (aMo 9), .ref (aMo 10), .ref (aMo 11), .ref (aMo 12), .ref (aMo 13), .ref (aMo 14), .ref (aMo 15), .ref (aMo 16), .int (zI mo_size), .int (zI mo_runs), .ref (aMo 19), .ref (aMo 20), .ref (aMo 21), .int (zI mo_found), .int (zI mo_counted), .int (zI mo_isParted), .ref (aMo 25), .ref (aMo 26), .ref (aMo 27), .ref (aMo 28), .ref (aMo 29), .int (zI mo_maybes), .int (zI mo_days), .int (zI mo_over2), .int (zI mo_longer), .ref (aMo 34)])), ((aMo 3), .inl (ca 0, 11, .inl (zA mo_rules))), ((aMo 5), .inl (ca 0, 4, .inl (zA mo_acts))), ((aMo 7), .inl (ca 0, 240, .inl (zA mo_kindOf))), ((aMo 8), .inl (ca 0, 240, .inl (zA mo_lengthOf))), ((aMo 13), .inl (ca 0, 20160, .inl (zA mo_laid))), ((aMo 14), .inl (ca 0, 20161, .inl (zA mo_driven))), ((aMo 15), .inl (ca 0, 60, .inl (zA mo_runFrom))), ((aMo 16), .inl (ca 0, 60, .inl (zA mo_runTo)))] 319 [(0, .ref (aMo 0)), (3, .int (zI v3)), (4, .int (zI v4)), (5, .int (zI v5)), (6, .int (zI v6)), (7, .int (zI v7))] [] := by
    intro v4 v5 v6 v7 mo_laid mo_driven mo_runFrom mo_runTo mo_size mo_runs mo_counted mo_isParted hf
    unfold fX11_most_319 at hf
    refine g_iconst (pc := 319) C dX11_most_319 ?_
    exact H320 _ _ _ _ _ _ _ _ _ _ _ _ _ hf
  have H262 : ∀ (v4 : Int) (v5 : Int) (v6 : Int) (v8 : Int) (s0 : Int) (s2 : Int) (s4 : Int) (mo_laid : Nat → Int) (mo_driven : Nat → Int) (mo_runFrom : Nat → Int) (mo_runTo : Nat → Int) (mo_size : Int) (mo_runs : Int) (mo_counted : Int) (mo_isParted : Int), fX11_most_262 v3 v4 v5 v6 v8 s0 s2 s4 mo_rules mo_laid mo_driven mo_runFrom mo_runTo mo_size mo_runs mo_counted mo_isParted = some (r_o, mo_laid_o, mo_driven_o, mo_runFrom_o, mo_runTo_o, mo_size_o, mo_runs_o, mo_counted_o, mo_isParted_o) → Zd D Γ 0 0 [((aMo 0), .inr (11, [.ref (aMo 1), .int (zI mo_taped), .ref (aMo 3), .ref (aMo 4), .ref (aMo 5), .ref (aMo 6), .ref (aMo 7), .ref (aMo 8), .ref (aMo 9), .ref (aMo 10), .ref (aMo 11), .ref (aMo 12), .ref (aMo 13), .ref (aMo 14), .ref (aMo 15), .ref (aMo 16), .int (zI mo_size), .int (zI mo_runs), .ref (aMo 19), .ref (aMo 20), .ref (aMo 21), .int (zI mo_found), .int (zI mo_counted), .int (zI mo_isParted), .ref (aMo 25), .ref (aMo 26), .ref (aMo 27), .ref (aMo 28), .ref (aMo 29), .int (zI mo_maybes), .int (zI mo_days), .int (zI mo_over2), .int (zI mo_longer), .ref (aMo 34)])), ((aMo 3), .inl (ca 0, 11, .inl (zA mo_rules))), ((aMo 5), .inl (ca 0, 4, .inl (zA mo_acts))), ((aMo 7), .inl (ca 0, 240, .inl (zA mo_kindOf))), ((aMo 8), .inl (ca 0, 240, .inl (zA mo_lengthOf))), ((aMo 13), .inl (ca 0, 20160, .inl (zA mo_laid))), ((aMo 14), .inl (ca 0, 20161, .inl (zA mo_driven))), ((aMo 15), .inl (ca 0, 60, .inl (zA mo_runFrom))), ((aMo 16), .inl (ca 0, 60, .inl (zA mo_runTo)))] 262 [(0, .ref (aMo 0)), (3, .int (zI v3)), (4, .int (zI v4)), (5, .int (zI v5)), (6, .int (zI v6)), (8, .int (zI v8))] [.int (zI s4), .ref (aMo 0), .int (zI s2), .ref (aMo 0), .int (zI s0)] := by
    intro v4 v5 v6 v8 s0 s2 s4 mo_laid mo_driven mo_runFrom mo_runTo mo_size mo_runs mo_counted mo_isParted hf
    unfold fX11_most_262 at hf
    obtain ⟨r_262, hc_262, hf⟩ := Option.bind_eq_some_iff.mp hf
    refine g_callV (pc := 262) C hl0 (wr := [((aMo 5), .inl (ca 0, 4, .inl (zA mo_acts))), ((aMo 7), .inl (ca 0, 240, .inl (zA mo_kindOf))), ((aMo 8), .inl (ca 0, 240, .inl (zA mo_lengthOf))), ((aMo 13), .inl (ca 0, 20160, .inl (zA mo_laid))), ((aMo 14), .inl (ca 0, 20161, .inl (zA mo_driven))), ((aMo 15), .inl (ca 0, 60, .inl (zA mo_runFrom))), ((aMo 16), .inl (ca 0, 60, .inl (zA mo_runTo)))]) (k' := 0) (n' := 0) (ws' := fun _ => [((aMo 5), .inl (ca 0, 4, .inl (zA mo_acts))), ((aMo 7), .inl (ca 0, 240, .inl (zA mo_kindOf))), ((aMo 8), .inl (ca 0, 240, .inl (zA mo_lengthOf))), ((aMo 13), .inl (ca 0, 20160, .inl (zA mo_laid))), ((aMo 14), .inl (ca 0, 20161, .inl (zA mo_driven))), ((aMo 15), .inl (ca 0, 60, .inl (zA mo_runFrom))), ((aMo 16), .inl (ca 0, 60, .inl (zA mo_runTo))), ((aMo 0), .inr (11, [.ref (aMo 1), .int (zI mo_taped), .ref (aMo 3), .ref (aMo 4), .ref (aMo 5), .ref (aMo 6), .ref (aMo 7), .ref (aMo 8), .ref (aMo 9), .ref (aMo 10), .ref (aMo 11), .ref (aMo 12), .ref (aMo 13), .ref (aMo 14), .ref (aMo 15), .ref (aMo 16), .int (zI mo_size), .int (zI mo_runs), .ref (aMo 19), .ref (aMo 20), .ref (aMo 21), .int (zI mo_found), .int (zI mo_counted), .int (zI mo_isParted), .ref (aMo 25), .ref (aMo 26), .ref (aMo 27), .ref (aMo 28), .ref (aMo 29), .int (zI mo_maybes), .int (zI mo_days), .int (zI mo_over2), .int (zI mo_longer), .ref (aMo 34)])), ((aMo 3), .inl (ca 0, 11, .inl (zA mo_rules)))]) (st' := [.int (zI r_262), .int (zI s2), .ref (aMo 0), .int (zI s0)]) (kX11_wholeOr l D ca aMo mo_taped mo_rules mo_size mo_runs mo_found mo_counted mo_isParted mo_maybes mo_days mo_over2 mo_longer s4 r_262 hc_262) wml_RX11_221 wim_X11_wholeOr wse_X11_wholeOr win_RX11 wco_X11_wholeOr (nA := 1) rfl (by decide +kernel)  ⟨(Nat.le_of_ble_eq_true rfl), (Nat.le_of_ble_eq_true rfl)⟩ (Nat.le_refl _) (Nat.le_refl _) rfl (by decide) dX11_most_262 0 11 rfl rfl rfl [0, 1] [2, 3, 4, 5, 6, 7, 8] rfl rfl rfl (by decide) (by decide) (by decide) rfl rfl (fun _ => rfl) rfl (fun _ => ?_)
    refine g_iload_n (pc := 265) C 1 dX11_most_265 rfl rfl ?_
    refine g_iload (pc := 266) C 5 dX11_most_266 rfl ?_
    refine g_isub (pc := 268) C dX11_most_268 ?_
    obtain ⟨r_269, hc_269, hf⟩ := Option.bind_eq_some_iff.mp hf
    refine g_callV (pc := 269) C hl0 (wr := [((aMo 5), .inl (ca 0, 4, .inl (zA mo_acts))), ((aMo 7), .inl (ca 0, 240, .inl (zA mo_kindOf))), ((aMo 8), .inl (ca 0, 240, .inl (zA mo_lengthOf))), ((aMo 13), .inl (ca 0, 20160, .inl (zA mo_laid))), ((aMo 14), .inl (ca 0, 20161, .inl (zA mo_driven))), ((aMo 15), .inl (ca 0, 60, .inl (zA mo_runFrom))), ((aMo 16), .inl (ca 0, 60, .inl (zA mo_runTo)))]) (k' := 0) (n' := 0) (ws' := fun _ => [((aMo 5), .inl (ca 0, 4, .inl (zA mo_acts))), ((aMo 7), .inl (ca 0, 240, .inl (zA mo_kindOf))), ((aMo 8), .inl (ca 0, 240, .inl (zA mo_lengthOf))), ((aMo 13), .inl (ca 0, 20160, .inl (zA mo_laid))), ((aMo 14), .inl (ca 0, 20161, .inl (zA mo_driven))), ((aMo 15), .inl (ca 0, 60, .inl (zA mo_runFrom))), ((aMo 16), .inl (ca 0, 60, .inl (zA mo_runTo))), ((aMo 0), .inr (11, [.ref (aMo 1), .int (zI mo_taped), .ref (aMo 3), .ref (aMo 4), .ref (aMo 5), .ref (aMo 6), .ref (aMo 7), .ref (aMo 8), .ref (aMo 9), .ref (aMo 10), .ref (aMo 11), .ref (aMo 12), .ref (aMo 13), .ref (aMo 14), .ref (aMo 15), .ref (aMo 16), .int (zI mo_size), .int (zI mo_runs), .ref (aMo 19), .ref (aMo 20), .ref (aMo 21), .int (zI mo_found), .int (zI mo_counted), .int (zI mo_isParted), .ref (aMo 25), .ref (aMo 26), .ref (aMo 27), .ref (aMo 28), .ref (aMo 29), .int (zI mo_maybes), .int (zI mo_days), .int (zI mo_over2), .int (zI mo_longer), .ref (aMo 34)])), ((aMo 3), .inl (ca 0, 11, .inl (zA mo_rules)))]) (st' := [.int (zI r_269), .int (zI s0)]) (kX11_mostOf l D ca aMo mo_taped mo_rules mo_size mo_runs mo_found mo_counted mo_isParted mo_maybes mo_days mo_over2 mo_longer s2 r_262 (v3 - v8) r_269 hc_269) wml_RX11_225 wim_X11_mostOf wse_X11_mostOf win_RX11 wco_X11_mostOf (nA := 3) rfl (by decide +kernel)  ⟨(Nat.le_of_ble_eq_true rfl), (Nat.le_of_ble_eq_true rfl)⟩ (Nat.le_refl _) (Nat.le_refl _) rfl (by decide) dX11_most_269 7 11 rfl rfl rfl [7, 8] [0, 1, 2, 3, 4, 5, 6] rfl rfl rfl (by decide) (by decide) (by decide) rfl rfl (fun _ => rfl) rfl (fun _ => ?_)
    obtain ⟨r_272, hc_272, hf⟩ := Option.bind_eq_some_iff.mp hf
    refine g_callS (pc := 272) C hl0 (wr := [((aMo 5), .inl (ca 0, 4, .inl (zA mo_acts))), ((aMo 7), .inl (ca 0, 240, .inl (zA mo_kindOf))), ((aMo 8), .inl (ca 0, 240, .inl (zA mo_lengthOf))), ((aMo 13), .inl (ca 0, 20160, .inl (zA mo_laid))), ((aMo 14), .inl (ca 0, 20161, .inl (zA mo_driven))), ((aMo 15), .inl (ca 0, 60, .inl (zA mo_runFrom))), ((aMo 16), .inl (ca 0, 60, .inl (zA mo_runTo))), ((aMo 0), .inr (11, [.ref (aMo 1), .int (zI mo_taped), .ref (aMo 3), .ref (aMo 4), .ref (aMo 5), .ref (aMo 6), .ref (aMo 7), .ref (aMo 8), .ref (aMo 9), .ref (aMo 10), .ref (aMo 11), .ref (aMo 12), .ref (aMo 13), .ref (aMo 14), .ref (aMo 15), .ref (aMo 16), .int (zI mo_size), .int (zI mo_runs), .ref (aMo 19), .ref (aMo 20), .ref (aMo 21), .int (zI mo_found), .int (zI mo_counted), .int (zI mo_isParted), .ref (aMo 25), .ref (aMo 26), .ref (aMo 27), .ref (aMo 28), .ref (aMo 29), .int (zI mo_maybes), .int (zI mo_days), .int (zI mo_over2), .int (zI mo_longer), .ref (aMo 34)])), ((aMo 3), .inl (ca 0, 11, .inl (zA mo_rules)))]) (k' := 0) (n' := 0) (ws' := fun _ => [((aMo 5), .inl (ca 0, 4, .inl (zA mo_acts))), ((aMo 7), .inl (ca 0, 240, .inl (zA mo_kindOf))), ((aMo 8), .inl (ca 0, 240, .inl (zA mo_lengthOf))), ((aMo 13), .inl (ca 0, 20160, .inl (zA mo_laid))), ((aMo 14), .inl (ca 0, 20161, .inl (zA mo_driven))), ((aMo 15), .inl (ca 0, 60, .inl (zA mo_runFrom))), ((aMo 16), .inl (ca 0, 60, .inl (zA mo_runTo))), ((aMo 0), .inr (11, [.ref (aMo 1), .int (zI mo_taped), .ref (aMo 3), .ref (aMo 4), .ref (aMo 5), .ref (aMo 6), .ref (aMo 7), .ref (aMo 8), .ref (aMo 9), .ref (aMo 10), .ref (aMo 11), .ref (aMo 12), .ref (aMo 13), .ref (aMo 14), .ref (aMo 15), .ref (aMo 16), .int (zI mo_size), .int (zI mo_runs), .ref (aMo 19), .ref (aMo 20), .ref (aMo 21), .int (zI mo_found), .int (zI mo_counted), .int (zI mo_isParted), .ref (aMo 25), .ref (aMo 26), .ref (aMo 27), .ref (aMo 28), .ref (aMo 29), .int (zI mo_maybes), .int (zI mo_days), .int (zI mo_over2), .int (zI mo_longer), .ref (aMo 34)])), ((aMo 3), .inl (ca 0, 11, .inl (zA mo_rules)))]) (st' := [.int (zI r_272)]) (kX11_greater l D ca s0 r_269 r_272 hc_272) wml_RX11_229 wst_X11_greater win_RX11 wco_X11_greater (nA := 2) rfl (by decide +kernel)  ⟨(Nat.le_of_ble_eq_true rfl), (Nat.le_of_ble_eq_true rfl)⟩ (Nat.le_refl _) (Nat.le_refl _) rfl (by decide) dX11_most_272 [] [0, 1, 2, 3, 4, 5, 6, 7, 8] rfl rfl rfl (by decide) (by decide) (by decide) rfl rfl (fun _ => rfl) rfl (fun _ => ?_)
    refine g_istore (pc := 275) C (lv' := [(7, .int (zI r_272)), (0, .ref (aMo 0)), (3, .int (zI v3)), (4, .int (zI v4)), (5, .int (zI v5)), (6, .int (zI v6)), (8, .int (zI v8))]) dX11_most_275 (Nat.le_of_ble_eq_true rfl) rfl ?_
    refine g_aload_n (pc := 277) C 1 dX11_most_277 rfl rfl ?_
    refine g_get (pc := 278) C zf_X11_134 7 rfl rfl dX11_most_278 ?_
    refine g_if_ne (pc := 281) C (tgt := 319) dX11_most_281 (by decide) hf (fun hf => ?_) (fun hf => ?_)
    · refine g_sub [7, 8, 0, 1, 2, 3, 4, 5, 6] [1, 2, 3, 4, 5, 0] (by decide) rfl rfl rfl ?_
      exact H319 _ _ _ _ _ _ _ _ _ _ _ _ hf
    · refine g_iload (pc := 284) C 3 dX11_most_284 rfl ?_
      refine g_aload_n (pc := 286) C 1 dX11_most_286 rfl rfl ?_
      refine g_get (pc := 287) C zf_X11_13 7 rfl rfl dX11_most_287 ?_
      refine g_iconst (pc := 290) C dX11_most_290 ?_
      refine g_ialdK (pc := 291) C 2 8 rfl rfl (Nat.le_of_ble_eq_true rfl) (Nat.le_of_ble_eq_true rfl) dX11_most_291 ?_
      refine g_icmp_ge (pc := 292) C (tgt := 319) dX11_most_292 (by decide) hf (fun hf => ?_) (fun hf => ?_)
      · refine g_sub [7, 8, 0, 1, 2, 3, 4, 5, 6] [1, 2, 3, 4, 5, 0] (by decide) rfl rfl rfl ?_
        exact H319 _ _ _ _ _ _ _ _ _ _ _ _ hf
      · refine g_aload_n (pc := 295) C 1 dX11_most_295 rfl rfl ?_
        refine g_get (pc := 296) C zf_X11_13 7 rfl rfl dX11_most_296 ?_
        refine g_iconst (pc := 299) C dX11_most_299 ?_
        refine g_ialdK (pc := 300) C 2 8 rfl rfl (Nat.le_of_ble_eq_true rfl) (Nat.le_of_ble_eq_true rfl) dX11_most_300 ?_
        refine g_aload_n (pc := 301) C 1 dX11_most_301 rfl rfl ?_
        refine g_get (pc := 302) C zf_X11_13 7 rfl rfl dX11_most_302 ?_
        refine g_iconst (pc := 305) C dX11_most_305 ?_
        refine g_ialdK (pc := 306) C 1 8 rfl rfl (Nat.le_of_ble_eq_true rfl) (Nat.le_of_ble_eq_true rfl) dX11_most_306 ?_
        refine g_icmp_ge (pc := 307) C (tgt := 319) dX11_most_307 (by decide) hf (fun hf => ?_) (fun hf => ?_)
        · refine g_sub [7, 8, 0, 1, 2, 3, 4, 5, 6] [1, 2, 3, 4, 5, 0] (by decide) rfl rfl rfl ?_
          exact H319 _ _ _ _ _ _ _ _ _ _ _ _ hf
        · refine g_iload (pc := 310) C 4 dX11_most_310 rfl ?_
          refine g_if_le (pc := 312) C (tgt := 319) dX11_most_312 (by decide) hf (fun hf => ?_) (fun hf => ?_)
          · refine g_sub [7, 8, 0, 1, 2, 3, 4, 5, 6] [1, 2, 3, 4, 5, 0] (by decide) rfl rfl rfl ?_
            exact H319 _ _ _ _ _ _ _ _ _ _ _ _ hf
          · refine g_iconst (pc := 315) C dX11_most_315 ?_
            refine g_goto (pc := 316) C (tgt := 320) dX11_most_316 (by decide) ?_
            refine g_sub [7, 8, 0, 1, 2, 3, 4, 5, 6] [1, 2, 3, 4, 5, 0] (by decide) rfl rfl rfl ?_
            exact H320 _ _ _ _ _ _ _ _ _ _ _ _ _ hf
  have H232 : ∀ (v4 : Int) (v5 : Int) (v6 : Int) (v7 : Int) (s0 : Int) (mo_laid : Nat → Int) (mo_driven : Nat → Int) (mo_runFrom : Nat → Int) (mo_runTo : Nat → Int) (mo_size : Int) (mo_runs : Int) (mo_counted : Int) (mo_isParted : Int), fX11_most_232 v3 v4 v5 v6 v7 s0 mo_rules mo_laid mo_driven mo_runFrom mo_runTo mo_size mo_runs mo_counted mo_isParted = some (r_o, mo_laid_o, mo_driven_o, mo_runFrom_o, mo_runTo_o, mo_size_o, mo_runs_o, mo_counted_o, mo_isParted_o) → Zd D Γ 0 0 [((aMo 0), .inr (11, [.ref (aMo 1), .int (zI mo_taped), .ref (aMo 3), .ref (aMo 4), .ref (aMo 5), .ref (aMo 6), .ref (aMo 7), .ref (aMo 8), .ref (aMo 9), .ref (aMo 10), .ref (aMo 11), .ref (aMo 12), .ref (aMo 13), .ref (aMo 14), .ref (aMo 15), .ref (aMo 16), .int (zI mo_size), .int (zI mo_runs), .ref (aMo 19), .ref (aMo 20), .ref (aMo 21), .int (zI mo_found), .int (zI mo_counted), .int (zI mo_isParted), .ref (aMo 25), .ref (aMo 26), .ref (aMo 27), .ref (aMo 28), .ref (aMo 29), .int (zI mo_maybes), .int (zI mo_days), .int (zI mo_over2), .int (zI mo_longer), .ref (aMo 34)])), ((aMo 3), .inl (ca 0, 11, .inl (zA mo_rules))), ((aMo 5), .inl (ca 0, 4, .inl (zA mo_acts))), ((aMo 7), .inl (ca 0, 240, .inl (zA mo_kindOf))), ((aMo 8), .inl (ca 0, 240, .inl (zA mo_lengthOf))), ((aMo 13), .inl (ca 0, 20160, .inl (zA mo_laid))), ((aMo 14), .inl (ca 0, 20161, .inl (zA mo_driven))), ((aMo 15), .inl (ca 0, 60, .inl (zA mo_runFrom))), ((aMo 16), .inl (ca 0, 60, .inl (zA mo_runTo)))] 232 [(0, .ref (aMo 0)), (3, .int (zI v3)), (4, .int (zI v4)), (5, .int (zI v5)), (6, .int (zI v6)), (7, .int (zI v7))] [.int (zI s0)] := by
    intro v4 v5 v6 v7 s0 mo_laid mo_driven mo_runFrom mo_runTo mo_size mo_runs mo_counted mo_isParted hf
    unfold fX11_most_232 at hf
    refine g_iload (pc := 232) C 2 dX11_most_232 rfl ?_
    refine g_isub (pc := 234) C dX11_most_234 ?_
    refine g_istore (pc := 235) C (lv' := [(8, .int (zI (s0 - v4))), (0, .ref (aMo 0)), (3, .int (zI v3)), (4, .int (zI v4)), (5, .int (zI v5)), (6, .int (zI v6)), (7, .int (zI v7))]) dX11_most_235 (Nat.le_of_ble_eq_true rfl) rfl ?_
    refine g_iload (pc := 237) C 6 dX11_most_237 rfl ?_
    refine g_aload_n (pc := 239) C 1 dX11_most_239 rfl rfl ?_
    refine g_aload_n (pc := 240) C 1 dX11_most_240 rfl rfl ?_
    refine g_get (pc := 241) C zf_X11_13 0 rfl rfl dX11_most_241 ?_
    refine g_iconst (pc := 244) C dX11_most_244 ?_
    refine g_ialdK (pc := 245) C 0 1 rfl rfl (Nat.le_of_ble_eq_true rfl) (Nat.le_of_ble_eq_true rfl) dX11_most_245 ?_
    refine g_aload_n (pc := 246) C 1 dX11_most_246 rfl rfl ?_
    refine g_aload_n (pc := 247) C 1 dX11_most_247 rfl rfl ?_
    refine g_get (pc := 248) C zf_X11_13 0 rfl rfl dX11_most_248 ?_
    refine g_iconst (pc := 251) C dX11_most_251 ?_
    refine g_ialdK (pc := 252) C 0 1 rfl rfl (Nat.le_of_ble_eq_true rfl) (Nat.le_of_ble_eq_true rfl) dX11_most_252 ?_
    refine g_iconst (pc := 253) C dX11_most_253 ?_
    refine g_icmp_ler (pc := 254) C (tgt := 261) dX11_most_254 (by decide) (by decide) hf (fun hf => ?_) (fun hf => ?_)
    · refine g_iconst (pc := 261) C dX11_most_261 ?_
      refine g_sub [0, 1, 2, 3, 4, 5, 6, 7, 8] [1, 2, 3, 4, 5, 0] (by decide) rfl rfl rfl ?_
      exact H262 _ _ _ _ _ _ _ _ _ _ _ _ _ _ _ hf
    · refine g_iconst (pc := 257) C dX11_most_257 ?_
      refine g_goto (pc := 258) C (tgt := 262) dX11_most_258 (by decide) ?_
      refine g_sub [0, 1, 2, 3, 4, 5, 6, 7, 8] [1, 2, 3, 4, 5, 0] (by decide) rfl rfl rfl ?_
      exact H262 _ _ _ _ _ _ _ _ _ _ _ _ _ _ _ hf
  have H212 : ∀ (v4 : Int) (v5 : Int) (v6 : Int) (s0 : Int) (mo_laid : Nat → Int) (mo_driven : Nat → Int) (mo_runFrom : Nat → Int) (mo_runTo : Nat → Int) (mo_size : Int) (mo_runs : Int) (mo_counted : Int) (mo_isParted : Int), fX11_most_212 v3 v4 v5 v6 s0 mo_rules mo_laid mo_driven mo_runFrom mo_runTo mo_size mo_runs mo_counted mo_isParted = some (r_o, mo_laid_o, mo_driven_o, mo_runFrom_o, mo_runTo_o, mo_size_o, mo_runs_o, mo_counted_o, mo_isParted_o) → Zd D Γ 0 0 [((aMo 0), .inr (11, [.ref (aMo 1), .int (zI mo_taped), .ref (aMo 3), .ref (aMo 4), .ref (aMo 5), .ref (aMo 6), .ref (aMo 7), .ref (aMo 8), .ref (aMo 9), .ref (aMo 10), .ref (aMo 11), .ref (aMo 12), .ref (aMo 13), .ref (aMo 14), .ref (aMo 15), .ref (aMo 16), .int (zI mo_size), .int (zI mo_runs), .ref (aMo 19), .ref (aMo 20), .ref (aMo 21), .int (zI mo_found), .int (zI mo_counted), .int (zI mo_isParted), .ref (aMo 25), .ref (aMo 26), .ref (aMo 27), .ref (aMo 28), .ref (aMo 29), .int (zI mo_maybes), .int (zI mo_days), .int (zI mo_over2), .int (zI mo_longer), .ref (aMo 34)])), ((aMo 3), .inl (ca 0, 11, .inl (zA mo_rules))), ((aMo 5), .inl (ca 0, 4, .inl (zA mo_acts))), ((aMo 7), .inl (ca 0, 240, .inl (zA mo_kindOf))), ((aMo 8), .inl (ca 0, 240, .inl (zA mo_lengthOf))), ((aMo 13), .inl (ca 0, 20160, .inl (zA mo_laid))), ((aMo 14), .inl (ca 0, 20161, .inl (zA mo_driven))), ((aMo 15), .inl (ca 0, 60, .inl (zA mo_runFrom))), ((aMo 16), .inl (ca 0, 60, .inl (zA mo_runTo)))] 212 [(0, .ref (aMo 0)), (3, .int (zI v3)), (4, .int (zI v4)), (5, .int (zI v5)), (6, .int (zI v6))] [.int (zI s0)] := by
    intro v4 v5 v6 s0 mo_laid mo_driven mo_runFrom mo_runTo mo_size mo_runs mo_counted mo_isParted hf
    unfold fX11_most_212 at hf
    refine g_istore (pc := 212) C (lv' := [(7, .int (zI s0)), (0, .ref (aMo 0)), (3, .int (zI v3)), (4, .int (zI v4)), (5, .int (zI v5)), (6, .int (zI v6))]) dX11_most_212 (Nat.le_of_ble_eq_true rfl) rfl ?_
    refine g_aload_n (pc := 214) C 1 dX11_most_214 rfl rfl ?_
    refine g_get (pc := 215) C zf_X11_134 0 rfl rfl dX11_most_215 ?_
    refine g_if_eq (pc := 218) C (tgt := 226) dX11_most_218 (by decide) hf (fun hf => ?_) (fun hf => ?_)
    · refine g_aload_n (pc := 226) C 1 dX11_most_226 rfl rfl ?_
      refine g_get (pc := 227) C zf_X11_13 0 rfl rfl dX11_most_227 ?_
      refine g_iconst (pc := 230) C dX11_most_230 ?_
      refine g_ialdK (pc := 231) C 1 1 rfl rfl (Nat.le_of_ble_eq_true rfl) (Nat.le_of_ble_eq_true rfl) dX11_most_231 ?_
      refine g_sub [0, 1, 2, 3, 4, 5, 6, 7, 8] [1, 2, 3, 4, 5, 0] (by decide) rfl rfl rfl ?_
      exact H232 _ _ _ _ _ _ _ _ _ _ _ _ _ hf
    · refine g_iload (pc := 221) C 5 dX11_most_221 rfl ?_
      refine g_goto (pc := 223) C (tgt := 232) dX11_most_223 (by decide) ?_
      refine g_sub [0, 1, 2, 3, 4, 5, 6, 7, 8] [1, 2, 3, 4, 5, 0] (by decide) rfl rfl rfl ?_
      exact H232 _ _ _ _ _ _ _ _ _ _ _ _ _ hf
  have H204 : ∀ (v4 : Int) (v5 : Int) (v6 : Int) (s1 : Int) (s2 : Int) (mo_laid : Nat → Int) (mo_driven : Nat → Int) (mo_runFrom : Nat → Int) (mo_runTo : Nat → Int) (mo_size : Int) (mo_runs : Int) (mo_counted : Int) (mo_isParted : Int), fX11_most_204 v3 v4 v5 v6 s1 s2 mo_rules mo_laid mo_driven mo_runFrom mo_runTo mo_size mo_runs mo_counted mo_isParted = some (r_o, mo_laid_o, mo_driven_o, mo_runFrom_o, mo_runTo_o, mo_size_o, mo_runs_o, mo_counted_o, mo_isParted_o) → Zd D Γ 0 0 [((aMo 0), .inr (11, [.ref (aMo 1), .int (zI mo_taped), .ref (aMo 3), .ref (aMo 4), .ref (aMo 5), .ref (aMo 6), .ref (aMo 7), .ref (aMo 8), .ref (aMo 9), .ref (aMo 10), .ref (aMo 11), .ref (aMo 12), .ref (aMo 13), .ref (aMo 14), .ref (aMo 15), .ref (aMo 16), .int (zI mo_size), .int (zI mo_runs), .ref (aMo 19), .ref (aMo 20), .ref (aMo 21), .int (zI mo_found), .int (zI mo_counted), .int (zI mo_isParted), .ref (aMo 25), .ref (aMo 26), .ref (aMo 27), .ref (aMo 28), .ref (aMo 29), .int (zI mo_maybes), .int (zI mo_days), .int (zI mo_over2), .int (zI mo_longer), .ref (aMo 34)])), ((aMo 3), .inl (ca 0, 11, .inl (zA mo_rules))), ((aMo 5), .inl (ca 0, 4, .inl (zA mo_acts))), ((aMo 7), .inl (ca 0, 240, .inl (zA mo_kindOf))), ((aMo 8), .inl (ca 0, 240, .inl (zA mo_lengthOf))), ((aMo 13), .inl (ca 0, 20160, .inl (zA mo_laid))), ((aMo 14), .inl (ca 0, 20161, .inl (zA mo_driven))), ((aMo 15), .inl (ca 0, 60, .inl (zA mo_runFrom))), ((aMo 16), .inl (ca 0, 60, .inl (zA mo_runTo)))] 204 [(0, .ref (aMo 0)), (3, .int (zI v3)), (4, .int (zI v4)), (5, .int (zI v5)), (6, .int (zI v6))] [.int (zI s2), .int (zI s1), .ref (aMo 0)] := by
    intro v4 v5 v6 s1 s2 mo_laid mo_driven mo_runFrom mo_runTo mo_size mo_runs mo_counted mo_isParted hf
    unfold fX11_most_204 at hf
    refine g_iload_n (pc := 204) C 1 dX11_most_204 rfl rfl ?_
    obtain ⟨r_205, hc_205, hf⟩ := Option.bind_eq_some_iff.mp hf
    refine g_callV (pc := 205) C hl0 (wr := [((aMo 5), .inl (ca 0, 4, .inl (zA mo_acts))), ((aMo 7), .inl (ca 0, 240, .inl (zA mo_kindOf))), ((aMo 8), .inl (ca 0, 240, .inl (zA mo_lengthOf))), ((aMo 13), .inl (ca 0, 20160, .inl (zA mo_laid))), ((aMo 14), .inl (ca 0, 20161, .inl (zA mo_driven))), ((aMo 15), .inl (ca 0, 60, .inl (zA mo_runFrom))), ((aMo 16), .inl (ca 0, 60, .inl (zA mo_runTo)))]) (k' := 0) (n' := 0) (ws' := fun _ => [((aMo 5), .inl (ca 0, 4, .inl (zA mo_acts))), ((aMo 7), .inl (ca 0, 240, .inl (zA mo_kindOf))), ((aMo 8), .inl (ca 0, 240, .inl (zA mo_lengthOf))), ((aMo 13), .inl (ca 0, 20160, .inl (zA mo_laid))), ((aMo 14), .inl (ca 0, 20161, .inl (zA mo_driven))), ((aMo 15), .inl (ca 0, 60, .inl (zA mo_runFrom))), ((aMo 16), .inl (ca 0, 60, .inl (zA mo_runTo))), ((aMo 0), .inr (11, [.ref (aMo 1), .int (zI mo_taped), .ref (aMo 3), .ref (aMo 4), .ref (aMo 5), .ref (aMo 6), .ref (aMo 7), .ref (aMo 8), .ref (aMo 9), .ref (aMo 10), .ref (aMo 11), .ref (aMo 12), .ref (aMo 13), .ref (aMo 14), .ref (aMo 15), .ref (aMo 16), .int (zI mo_size), .int (zI mo_runs), .ref (aMo 19), .ref (aMo 20), .ref (aMo 21), .int (zI mo_found), .int (zI mo_counted), .int (zI mo_isParted), .ref (aMo 25), .ref (aMo 26), .ref (aMo 27), .ref (aMo 28), .ref (aMo 29), .int (zI mo_maybes), .int (zI mo_days), .int (zI mo_over2), .int (zI mo_longer), .ref (aMo 34)])), ((aMo 3), .inl (ca 0, 11, .inl (zA mo_rules)))]) (st' := [.int (zI r_205)]) (kX11_mostOf l D ca aMo mo_taped mo_rules mo_size mo_runs mo_found mo_counted mo_isParted mo_maybes mo_days mo_over2 mo_longer s1 s2 v3 r_205 hc_205) wml_RX11_225 wim_X11_mostOf wse_X11_mostOf win_RX11 wco_X11_mostOf (nA := 3) rfl (by decide +kernel)  ⟨(Nat.le_of_ble_eq_true rfl), (Nat.le_of_ble_eq_true rfl)⟩ (Nat.le_refl _) (Nat.le_refl _) rfl (by decide) dX11_most_205 0 11 rfl rfl rfl [0, 1] [2, 3, 4, 5, 6, 7, 8] rfl rfl rfl (by decide) (by decide) (by decide) rfl rfl (fun _ => rfl) rfl (fun _ => ?_)
    refine g_goto (pc := 208) C (tgt := 212) dX11_most_208 (by decide) ?_
    refine g_sub [7, 8, 0, 1, 2, 3, 4, 5, 6] [0, 1, 2, 3, 4] (by decide) rfl rfl rfl ?_
    exact H212 _ _ _ _ _ _ _ _ _ _ _ _ hf
  have H184 : ∀ (v4 : Int) (v5 : Int) (v6 : Int) (s1 : Int) (mo_laid : Nat → Int) (mo_driven : Nat → Int) (mo_runFrom : Nat → Int) (mo_runTo : Nat → Int) (mo_size : Int) (mo_runs : Int) (mo_counted : Int) (mo_isParted : Int), fX11_most_184 v3 v4 v5 v6 s1 mo_rules mo_laid mo_driven mo_runFrom mo_runTo mo_size mo_runs mo_counted mo_isParted = some (r_o, mo_laid_o, mo_driven_o, mo_runFrom_o, mo_runTo_o, mo_size_o, mo_runs_o, mo_counted_o, mo_isParted_o) → Zd D Γ 0 0 [((aMo 0), .inr (11, [.ref (aMo 1), .int (zI mo_taped), .ref (aMo 3), .ref (aMo 4), .ref (aMo 5), .ref (aMo 6), .ref (aMo 7), .ref (aMo 8), .ref (aMo 9), .ref (aMo 10), .ref (aMo 11), .ref (aMo 12), .ref (aMo 13), .ref (aMo 14), .ref (aMo 15), .ref (aMo 16), .int (zI mo_size), .int (zI mo_runs), .ref (aMo 19), .ref (aMo 20), .ref (aMo 21), .int (zI mo_found), .int (zI mo_counted), .int (zI mo_isParted), .ref (aMo 25), .ref (aMo 26), .ref (aMo 27), .ref (aMo 28), .ref (aMo 29), .int (zI mo_maybes), .int (zI mo_days), .int (zI mo_over2), .int (zI mo_longer), .ref (aMo 34)])), ((aMo 3), .inl (ca 0, 11, .inl (zA mo_rules))), ((aMo 5), .inl (ca 0, 4, .inl (zA mo_acts))), ((aMo 7), .inl (ca 0, 240, .inl (zA mo_kindOf))), ((aMo 8), .inl (ca 0, 240, .inl (zA mo_lengthOf))), ((aMo 13), .inl (ca 0, 20160, .inl (zA mo_laid))), ((aMo 14), .inl (ca 0, 20161, .inl (zA mo_driven))), ((aMo 15), .inl (ca 0, 60, .inl (zA mo_runFrom))), ((aMo 16), .inl (ca 0, 60, .inl (zA mo_runTo)))] 184 [(0, .ref (aMo 0)), (3, .int (zI v3)), (4, .int (zI v4)), (5, .int (zI v5)), (6, .int (zI v6))] [.int (zI s1), .ref (aMo 0)] := by
    intro v4 v5 v6 s1 mo_laid mo_driven mo_runFrom mo_runTo mo_size mo_runs mo_counted mo_isParted hf
    unfold fX11_most_184 at hf
    refine g_iload (pc := 184) C 4 dX11_most_184 rfl ?_
    refine g_goto (pc := 186) C (tgt := 204) dX11_most_186 (by decide) ?_
    exact H204 _ _ _ _ _ _ _ _ _ _ _ _ _ hf
  have H201 : ∀ (v4 : Int) (v5 : Int) (v6 : Int) (s1 : Int) (s3 : Int) (mo_laid : Nat → Int) (mo_driven : Nat → Int) (mo_runFrom : Nat → Int) (mo_runTo : Nat → Int) (mo_size : Int) (mo_runs : Int) (mo_counted : Int) (mo_isParted : Int), fX11_most_201 v3 v4 v5 v6 s1 s3 mo_rules mo_laid mo_driven mo_runFrom mo_runTo mo_size mo_runs mo_counted mo_isParted = some (r_o, mo_laid_o, mo_driven_o, mo_runFrom_o, mo_runTo_o, mo_size_o, mo_runs_o, mo_counted_o, mo_isParted_o) → Zd D Γ 0 0 [((aMo 0), .inr (11, [.ref (aMo 1), .int (zI mo_taped), .ref (aMo 3), .ref (aMo 4), .ref (aMo 5), .ref (aMo 6), .ref (aMo 7), .ref (aMo 8), .ref (aMo 9), .ref (aMo 10), .ref (aMo 11), .ref (aMo 12), .ref (aMo 13), .ref (aMo 14), .ref (aMo 15), .ref (aMo 16), .int (zI mo_size), .int (zI mo_runs), .ref (aMo 19), .ref (aMo 20), .ref (aMo 21), .int (zI mo_found), .int (zI mo_counted), .int (zI mo_isParted), .ref (aMo 25), .ref (aMo 26), .ref (aMo 27), .ref (aMo 28), .ref (aMo 29), .int (zI mo_maybes), .int (zI mo_days), .int (zI mo_over2), .int (zI mo_longer), .ref (aMo 34)])), ((aMo 3), .inl (ca 0, 11, .inl (zA mo_rules))), ((aMo 5), .inl (ca 0, 4, .inl (zA mo_acts))), ((aMo 7), .inl (ca 0, 240, .inl (zA mo_kindOf))), ((aMo 8), .inl (ca 0, 240, .inl (zA mo_lengthOf))), ((aMo 13), .inl (ca 0, 20160, .inl (zA mo_laid))), ((aMo 14), .inl (ca 0, 20161, .inl (zA mo_driven))), ((aMo 15), .inl (ca 0, 60, .inl (zA mo_runFrom))), ((aMo 16), .inl (ca 0, 60, .inl (zA mo_runTo)))] 201 [(0, .ref (aMo 0)), (3, .int (zI v3)), (4, .int (zI v4)), (5, .int (zI v5)), (6, .int (zI v6))] [.int (zI s3), .ref (aMo 0), .int (zI s1), .ref (aMo 0)] := by
    intro v4 v5 v6 s1 s3 mo_laid mo_driven mo_runFrom mo_runTo mo_size mo_runs mo_counted mo_isParted hf
    unfold fX11_most_201 at hf
    obtain ⟨r_201, hc_201, hf⟩ := Option.bind_eq_some_iff.mp hf
    refine g_callV (pc := 201) C hl0 (wr := [((aMo 5), .inl (ca 0, 4, .inl (zA mo_acts))), ((aMo 7), .inl (ca 0, 240, .inl (zA mo_kindOf))), ((aMo 8), .inl (ca 0, 240, .inl (zA mo_lengthOf))), ((aMo 13), .inl (ca 0, 20160, .inl (zA mo_laid))), ((aMo 14), .inl (ca 0, 20161, .inl (zA mo_driven))), ((aMo 15), .inl (ca 0, 60, .inl (zA mo_runFrom))), ((aMo 16), .inl (ca 0, 60, .inl (zA mo_runTo)))]) (k' := 0) (n' := 0) (ws' := fun _ => [((aMo 5), .inl (ca 0, 4, .inl (zA mo_acts))), ((aMo 7), .inl (ca 0, 240, .inl (zA mo_kindOf))), ((aMo 8), .inl (ca 0, 240, .inl (zA mo_lengthOf))), ((aMo 13), .inl (ca 0, 20160, .inl (zA mo_laid))), ((aMo 14), .inl (ca 0, 20161, .inl (zA mo_driven))), ((aMo 15), .inl (ca 0, 60, .inl (zA mo_runFrom))), ((aMo 16), .inl (ca 0, 60, .inl (zA mo_runTo))), ((aMo 0), .inr (11, [.ref (aMo 1), .int (zI mo_taped), .ref (aMo 3), .ref (aMo 4), .ref (aMo 5), .ref (aMo 6), .ref (aMo 7), .ref (aMo 8), .ref (aMo 9), .ref (aMo 10), .ref (aMo 11), .ref (aMo 12), .ref (aMo 13), .ref (aMo 14), .ref (aMo 15), .ref (aMo 16), .int (zI mo_size), .int (zI mo_runs), .ref (aMo 19), .ref (aMo 20), .ref (aMo 21), .int (zI mo_found), .int (zI mo_counted), .int (zI mo_isParted), .ref (aMo 25), .ref (aMo 26), .ref (aMo 27), .ref (aMo 28), .ref (aMo 29), .int (zI mo_maybes), .int (zI mo_days), .int (zI mo_over2), .int (zI mo_longer), .ref (aMo 34)])), ((aMo 3), .inl (ca 0, 11, .inl (zA mo_rules)))]) (st' := [.int (zI r_201), .int (zI s1), .ref (aMo 0)]) (kX11_wholeOr l D ca aMo mo_taped mo_rules mo_size mo_runs mo_found mo_counted mo_isParted mo_maybes mo_days mo_over2 mo_longer s3 r_201 hc_201) wml_RX11_221 wim_X11_wholeOr wse_X11_wholeOr win_RX11 wco_X11_wholeOr (nA := 1) rfl (by decide +kernel)  ⟨(Nat.le_of_ble_eq_true rfl), (Nat.le_of_ble_eq_true rfl)⟩ (Nat.le_refl _) (Nat.le_refl _) rfl (by decide) dX11_most_201 0 11 rfl rfl rfl [0, 1] [2, 3, 4, 5, 6, 7, 8] rfl rfl rfl (by decide) (by decide) (by decide) rfl rfl (fun _ => rfl) rfl (fun _ => ?_)
    refine g_sub [7, 8, 0, 1, 2, 3, 4, 5, 6] [0, 1, 2, 3, 4] (by decide) rfl rfl rfl ?_
    exact H204 _ _ _ _ _ _ _ _ _ _ _ _ _ hf
  have H60 : ∀ (v4 : Int) (s0 : Int) (mo_laid : Nat → Int) (mo_driven : Nat → Int) (mo_runFrom : Nat → Int) (mo_runTo : Nat → Int) (mo_size : Int) (mo_runs : Int) (mo_counted : Int) (mo_isParted : Int), fX11_most_60 v3 v4 s0 mo_rules mo_laid mo_driven mo_runFrom mo_runTo mo_size mo_runs mo_counted mo_isParted = some (r_o, mo_laid_o, mo_driven_o, mo_runFrom_o, mo_runTo_o, mo_size_o, mo_runs_o, mo_counted_o, mo_isParted_o) → Zd D Γ 0 0 [((aMo 0), .inr (11, [.ref (aMo 1), .int (zI mo_taped), .ref (aMo 3), .ref (aMo 4), .ref (aMo 5), .ref (aMo 6), .ref (aMo 7), .ref (aMo 8), .ref (aMo 9), .ref (aMo 10), .ref (aMo 11), .ref (aMo 12), .ref (aMo 13), .ref (aMo 14), .ref (aMo 15), .ref (aMo 16), .int (zI mo_size), .int (zI mo_runs), .ref (aMo 19), .ref (aMo 20), .ref (aMo 21), .int (zI mo_found), .int (zI mo_counted), .int (zI mo_isParted), .ref (aMo 25), .ref (aMo 26), .ref (aMo 27), .ref (aMo 28), .ref (aMo 29), .int (zI mo_maybes), .int (zI mo_days), .int (zI mo_over2), .int (zI mo_longer), .ref (aMo 34)])), ((aMo 3), .inl (ca 0, 11, .inl (zA mo_rules))), ((aMo 5), .inl (ca 0, 4, .inl (zA mo_acts))), ((aMo 7), .inl (ca 0, 240, .inl (zA mo_kindOf))), ((aMo 8), .inl (ca 0, 240, .inl (zA mo_lengthOf))), ((aMo 13), .inl (ca 0, 20160, .inl (zA mo_laid))), ((aMo 14), .inl (ca 0, 20161, .inl (zA mo_driven))), ((aMo 15), .inl (ca 0, 60, .inl (zA mo_runFrom))), ((aMo 16), .inl (ca 0, 60, .inl (zA mo_runTo)))] 60 [(0, .ref (aMo 0)), (3, .int (zI v3)), (4, .int (zI v4))] [.int (zI s0)] := by
    intro v4 s0 mo_laid mo_driven mo_runFrom mo_runTo mo_size mo_runs mo_counted mo_isParted hf
    unfold fX11_most_60 at hf
    refine g_istore (pc := 60) C (lv' := [(5, .int (zI s0)), (0, .ref (aMo 0)), (3, .int (zI v3)), (4, .int (zI v4))]) dX11_most_60 (Nat.le_of_ble_eq_true rfl) rfl ?_
    refine g_aload_n (pc := 62) C 1 dX11_most_62 rfl rfl ?_
    refine g_get (pc := 63) C zf_X11_13 0 rfl rfl dX11_most_63 ?_
    refine g_iconst (pc := 66) C dX11_most_66 ?_
    refine g_ialdK (pc := 67) C 1 1 rfl rfl (Nat.le_of_ble_eq_true rfl) (Nat.le_of_ble_eq_true rfl) dX11_most_67 ?_
    refine g_aload_n (pc := 68) C 1 dX11_most_68 rfl rfl ?_
    refine g_get (pc := 69) C zf_X11_13 0 rfl rfl dX11_most_69 ?_
    refine g_iconst (pc := 72) C dX11_most_72 ?_
    refine g_ialdK (pc := 73) C 3 1 rfl rfl (Nat.le_of_ble_eq_true rfl) (Nat.le_of_ble_eq_true rfl) dX11_most_73 ?_
    obtain ⟨r_74, hc_74, hf⟩ := Option.bind_eq_some_iff.mp hf
    refine g_callS (pc := 74) C hl0 (wr := [((aMo 0), .inr (11, [.ref (aMo 1), .int (zI mo_taped), .ref (aMo 3), .ref (aMo 4), .ref (aMo 5), .ref (aMo 6), .ref (aMo 7), .ref (aMo 8), .ref (aMo 9), .ref (aMo 10), .ref (aMo 11), .ref (aMo 12), .ref (aMo 13), .ref (aMo 14), .ref (aMo 15), .ref (aMo 16), .int (zI mo_size), .int (zI mo_runs), .ref (aMo 19), .ref (aMo 20), .ref (aMo 21), .int (zI mo_found), .int (zI mo_counted), .int (zI mo_isParted), .ref (aMo 25), .ref (aMo 26), .ref (aMo 27), .ref (aMo 28), .ref (aMo 29), .int (zI mo_maybes), .int (zI mo_days), .int (zI mo_over2), .int (zI mo_longer), .ref (aMo 34)])), ((aMo 3), .inl (ca 0, 11, .inl (zA mo_rules))), ((aMo 5), .inl (ca 0, 4, .inl (zA mo_acts))), ((aMo 7), .inl (ca 0, 240, .inl (zA mo_kindOf))), ((aMo 8), .inl (ca 0, 240, .inl (zA mo_lengthOf))), ((aMo 13), .inl (ca 0, 20160, .inl (zA mo_laid))), ((aMo 14), .inl (ca 0, 20161, .inl (zA mo_driven))), ((aMo 15), .inl (ca 0, 60, .inl (zA mo_runFrom))), ((aMo 16), .inl (ca 0, 60, .inl (zA mo_runTo)))]) (k' := 0) (n' := 0) (ws' := fun _ => [((aMo 0), .inr (11, [.ref (aMo 1), .int (zI mo_taped), .ref (aMo 3), .ref (aMo 4), .ref (aMo 5), .ref (aMo 6), .ref (aMo 7), .ref (aMo 8), .ref (aMo 9), .ref (aMo 10), .ref (aMo 11), .ref (aMo 12), .ref (aMo 13), .ref (aMo 14), .ref (aMo 15), .ref (aMo 16), .int (zI mo_size), .int (zI mo_runs), .ref (aMo 19), .ref (aMo 20), .ref (aMo 21), .int (zI mo_found), .int (zI mo_counted), .int (zI mo_isParted), .ref (aMo 25), .ref (aMo 26), .ref (aMo 27), .ref (aMo 28), .ref (aMo 29), .int (zI mo_maybes), .int (zI mo_days), .int (zI mo_over2), .int (zI mo_longer), .ref (aMo 34)])), ((aMo 3), .inl (ca 0, 11, .inl (zA mo_rules))), ((aMo 5), .inl (ca 0, 4, .inl (zA mo_acts))), ((aMo 7), .inl (ca 0, 240, .inl (zA mo_kindOf))), ((aMo 8), .inl (ca 0, 240, .inl (zA mo_lengthOf))), ((aMo 13), .inl (ca 0, 20160, .inl (zA mo_laid))), ((aMo 14), .inl (ca 0, 20161, .inl (zA mo_driven))), ((aMo 15), .inl (ca 0, 60, .inl (zA mo_runFrom))), ((aMo 16), .inl (ca 0, 60, .inl (zA mo_runTo)))]) (st' := [.int (zI r_74)]) (kX11_lesser l D ca (mo_rules 1) (mo_rules 3) r_74 hc_74) wml_RX11_218 wst_X11_lesser win_RX11 wco_X11_lesser (nA := 2) rfl (by decide +kernel)  ⟨(Nat.le_of_ble_eq_true rfl), (Nat.le_of_ble_eq_true rfl)⟩ (Nat.le_refl _) (Nat.le_refl _) rfl (by decide) dX11_most_74 [] [0, 1, 2, 3, 4, 5, 6, 7, 8] rfl rfl rfl (by decide) (by decide) (by decide) rfl rfl (fun _ => rfl) rfl (fun _ => ?_)
    refine g_istore (pc := 77) C (lv' := [(6, .int (zI r_74)), (5, .int (zI s0)), (0, .ref (aMo 0)), (3, .int (zI v3)), (4, .int (zI v4))]) dX11_most_77 (Nat.le_of_ble_eq_true rfl) rfl ?_
    refine g_iload (pc := 79) C 4 dX11_most_79 rfl ?_
    refine g_if_ne (pc := 81) C (tgt := 118) dX11_most_81 (by decide) hf (fun hf => ?_) (fun hf => ?_)
    · refine g_aload_n (pc := 118) C 2 dX11_most_118 rfl rfl ?_
      refine g_iload (pc := 119) C 4 dX11_most_119 rfl ?_
      obtain ⟨r_121, hc_121, hf⟩ := Option.bind_eq_some_iff.mp hf
      refine g_callV (pc := 121) C hl0 (wr := [((aMo 5), .inl (ca 0, 4, .inl (zA mo_acts))), ((aMo 7), .inl (ca 0, 240, .inl (zA mo_kindOf))), ((aMo 8), .inl (ca 0, 240, .inl (zA mo_lengthOf))), ((aMo 13), .inl (ca 0, 20160, .inl (zA mo_laid))), ((aMo 14), .inl (ca 0, 20161, .inl (zA mo_driven))), ((aMo 15), .inl (ca 0, 60, .inl (zA mo_runFrom))), ((aMo 16), .inl (ca 0, 60, .inl (zA mo_runTo)))]) (k' := 0) (n' := 0) (ws' := fun _ => [((aMo 5), .inl (ca 0, 4, .inl (zA mo_acts))), ((aMo 7), .inl (ca 0, 240, .inl (zA mo_kindOf))), ((aMo 8), .inl (ca 0, 240, .inl (zA mo_lengthOf))), ((aMo 13), .inl (ca 0, 20160, .inl (zA mo_laid))), ((aMo 14), .inl (ca 0, 20161, .inl (zA mo_driven))), ((aMo 15), .inl (ca 0, 60, .inl (zA mo_runFrom))), ((aMo 16), .inl (ca 0, 60, .inl (zA mo_runTo))), ((aMo 0), .inr (11, [.ref (aMo 1), .int (zI mo_taped), .ref (aMo 3), .ref (aMo 4), .ref (aMo 5), .ref (aMo 6), .ref (aMo 7), .ref (aMo 8), .ref (aMo 9), .ref (aMo 10), .ref (aMo 11), .ref (aMo 12), .ref (aMo 13), .ref (aMo 14), .ref (aMo 15), .ref (aMo 16), .int (zI mo_size), .int (zI mo_runs), .ref (aMo 19), .ref (aMo 20), .ref (aMo 21), .int (zI mo_found), .int (zI mo_counted), .int (zI mo_isParted), .ref (aMo 25), .ref (aMo 26), .ref (aMo 27), .ref (aMo 28), .ref (aMo 29), .int (zI mo_maybes), .int (zI mo_days), .int (zI mo_over2), .int (zI mo_longer), .ref (aMo 34)])), ((aMo 3), .inl (ca 0, 11, .inl (zA mo_rules)))]) (st' := [.int (zI r_121)]) (kX11_resets l D ca aMo mo_taped mo_rules mo_size mo_runs mo_found mo_counted mo_isParted mo_maybes mo_days mo_over2 mo_longer v4 r_121 hc_121) wml_RX11_144 wim_X11_resets wse_X11_resets win_RX11 wco_X11_resets (nA := 1) rfl (by decide +kernel)  ⟨(Nat.le_of_ble_eq_true rfl), (Nat.le_of_ble_eq_true rfl)⟩ (Nat.le_refl _) (Nat.le_refl _) rfl (by decide) dX11_most_121 0 11 rfl rfl rfl [0, 1] [2, 3, 4, 5, 6, 7, 8] rfl rfl rfl (by decide) (by decide) (by decide) rfl rfl (fun _ => rfl) rfl (fun _ => ?_)
      refine g_if_eq (pc := 124) C (tgt := 158) dX11_most_124 (by decide) hf (fun hf => ?_) (fun hf => ?_)
      · refine g_iload (pc := 158) C 1 dX11_most_158 rfl ?_
        refine g_if_le (pc := 160) C (tgt := 211) dX11_most_160 (by decide) hf (fun hf => ?_) (fun hf => ?_)
        · refine g_iconst (pc := 211) C dX11_most_211 ?_
          refine g_sub [7, 8, 0, 1, 2, 3, 4, 5, 6] [2, 3, 4, 1, 0] (by decide) rfl rfl rfl ?_
          exact H212 _ _ _ _ _ _ _ _ _ _ _ _ hf
        · refine g_aload_n (pc := 163) C 2 dX11_most_163 rfl rfl ?_
          refine g_iload (pc := 164) C 1 dX11_most_164 rfl ?_
          refine g_aload_n (pc := 166) C 2 dX11_most_166 rfl rfl ?_
          refine g_get (pc := 167) C zf_X11_134 7 rfl rfl dX11_most_167 ?_
          refine g_if_ne (pc := 170) C (tgt := 184) dX11_most_170 (by decide) hf (fun hf => ?_) (fun hf => ?_)
          · refine g_sub [7, 8, 0, 1, 2, 3, 4, 5, 6] [2, 3, 4, 1, 0] (by decide) rfl rfl rfl ?_
            exact H184 _ _ _ _ _ _ _ _ _ _ _ _ hf
          · refine g_iload (pc := 173) C 4 dX11_most_173 rfl ?_
            refine g_aload_n (pc := 175) C 2 dX11_most_175 rfl rfl ?_
            refine g_get (pc := 176) C zf_X11_13 7 rfl rfl dX11_most_176 ?_
            refine g_iconst (pc := 179) C dX11_most_179 ?_
            refine g_ialdK (pc := 180) C 2 8 rfl rfl (Nat.le_of_ble_eq_true rfl) (Nat.le_of_ble_eq_true rfl) dX11_most_180 ?_
            refine g_icmp_lt (pc := 181) C (tgt := 189) dX11_most_181 (by decide) hf (fun hf => ?_) (fun hf => ?_)
            · refine g_aload_n (pc := 189) C 2 dX11_most_189 rfl rfl ?_
              refine g_iload (pc := 190) C 1 dX11_most_190 rfl ?_
              refine g_iconst (pc := 192) C dX11_most_192 ?_
              refine g_icmp_ler (pc := 193) C (tgt := 200) dX11_most_193 (by decide) (by decide) hf (fun hf => ?_) (fun hf => ?_)
              · refine g_iconst (pc := 200) C dX11_most_200 ?_
                refine g_sub [7, 8, 0, 1, 2, 3, 4, 5, 6] [2, 3, 4, 1, 0] (by decide) rfl rfl rfl ?_
                exact H201 _ _ _ _ _ _ _ _ _ _ _ _ _ hf
              · refine g_iconst (pc := 196) C dX11_most_196 ?_
                refine g_goto (pc := 197) C (tgt := 201) dX11_most_197 (by decide) ?_
                refine g_sub [7, 8, 0, 1, 2, 3, 4, 5, 6] [2, 3, 4, 1, 0] (by decide) rfl rfl rfl ?_
                exact H201 _ _ _ _ _ _ _ _ _ _ _ _ _ hf
            · refine g_sub [7, 8, 0, 1, 2, 3, 4, 5, 6] [2, 3, 4, 1, 0] (by decide) rfl rfl rfl ?_
              exact H184 _ _ _ _ _ _ _ _ _ _ _ _ hf
      · refine g_aload_n (pc := 127) C 2 dX11_most_127 rfl rfl ?_
        refine g_aload_n (pc := 128) C 2 dX11_most_128 rfl rfl ?_
        refine g_get (pc := 129) C zf_X11_13 7 rfl rfl dX11_most_129 ?_
        refine g_iconst (pc := 132) C dX11_most_132 ?_
        refine g_ialdK (pc := 133) C 0 8 rfl rfl (Nat.le_of_ble_eq_true rfl) (Nat.le_of_ble_eq_true rfl) dX11_most_133 ?_
        refine g_aload_n (pc := 134) C 2 dX11_most_134 rfl rfl ?_
        refine g_aload_n (pc := 135) C 2 dX11_most_135 rfl rfl ?_
        refine g_get (pc := 136) C zf_X11_13 7 rfl rfl dX11_most_136 ?_
        refine g_iconst (pc := 139) C dX11_most_139 ?_
        refine g_ialdK (pc := 140) C 0 8 rfl rfl (Nat.le_of_ble_eq_true rfl) (Nat.le_of_ble_eq_true rfl) dX11_most_140 ?_
        refine g_iconst (pc := 141) C dX11_most_141 ?_
        refine g_icmp_ler (pc := 142) C (tgt := 149) dX11_most_142 (by decide) (by decide) hf (fun hf => ?_) (fun hf => ?_)
        · refine g_iconst (pc := 149) C dX11_most_149 ?_
          refine g_sub [7, 8, 0, 1, 2, 3, 4, 5, 6] [3] (by decide) rfl rfl rfl ?_
          exact H150 _ _ _ _ _ _ _ _ _ _ hf
        · refine g_iconst (pc := 145) C dX11_most_145 ?_
          refine g_goto (pc := 146) C (tgt := 150) dX11_most_146 (by decide) ?_
          refine g_sub [7, 8, 0, 1, 2, 3, 4, 5, 6] [3] (by decide) rfl rfl rfl ?_
          exact H150 _ _ _ _ _ _ _ _ _ _ hf
    · refine g_aload_n (pc := 84) C 2 dX11_most_84 rfl rfl ?_
      refine g_iload (pc := 85) C 1 dX11_most_85 rfl ?_
      refine g_aload_n (pc := 87) C 2 dX11_most_87 rfl rfl ?_
      refine g_get (pc := 88) C zf_X11_134 0 rfl rfl dX11_most_88 ?_
      refine g_if_eq (pc := 91) C (tgt := 99) dX11_most_91 (by decide) hf (fun hf => ?_) (fun hf => ?_)
      · refine g_aload_n (pc := 99) C 2 dX11_most_99 rfl rfl ?_
        refine g_iload (pc := 100) C 1 dX11_most_100 rfl ?_
        refine g_if_le (pc := 102) C (tgt := 109) dX11_most_102 (by decide) hf (fun hf => ?_) (fun hf => ?_)
        · refine g_iconst (pc := 109) C dX11_most_109 ?_
          refine g_sub [0, 1, 2, 3, 4, 5, 6, 7, 8] [3] (by decide) rfl rfl rfl ?_
          exact H110 _ _ _ _ _ _ _ _ _ _ hf
        · refine g_iconst (pc := 105) C dX11_most_105 ?_
          refine g_goto (pc := 106) C (tgt := 110) dX11_most_106 (by decide) ?_
          refine g_sub [0, 1, 2, 3, 4, 5, 6, 7, 8] [3] (by decide) rfl rfl rfl ?_
          exact H110 _ _ _ _ _ _ _ _ _ _ hf
      · refine g_iload (pc := 94) C 0 dX11_most_94 rfl ?_
        refine g_goto (pc := 96) C (tgt := 113) dX11_most_96 (by decide) ?_
        refine g_sub [0, 1, 2, 3, 4, 5, 6, 7, 8] [3] (by decide) rfl rfl rfl ?_
        exact H113 _ _ _ _ _ _ _ _ _ _ hf
  unfold fX11_most at hf
  refine g_iload_n (pc := 0) C 1 dX11_most_0 rfl rfl ?_
  obtain ⟨r_1, hc_1, hf⟩ := Option.bind_eq_some_iff.mp hf
  refine g_callS (pc := 1) C hl0 (wr := [((aMo 0), .inr (11, [.ref (aMo 1), .int (zI mo_taped), .ref (aMo 3), .ref (aMo 4), .ref (aMo 5), .ref (aMo 6), .ref (aMo 7), .ref (aMo 8), .ref (aMo 9), .ref (aMo 10), .ref (aMo 11), .ref (aMo 12), .ref (aMo 13), .ref (aMo 14), .ref (aMo 15), .ref (aMo 16), .int (zI mo_size), .int (zI mo_runs), .ref (aMo 19), .ref (aMo 20), .ref (aMo 21), .int (zI mo_found), .int (zI mo_counted), .int (zI mo_isParted), .ref (aMo 25), .ref (aMo 26), .ref (aMo 27), .ref (aMo 28), .ref (aMo 29), .int (zI mo_maybes), .int (zI mo_days), .int (zI mo_over2), .int (zI mo_longer), .ref (aMo 34)])), ((aMo 3), .inl (ca 0, 11, .inl (zA mo_rules))), ((aMo 5), .inl (ca 0, 4, .inl (zA mo_acts))), ((aMo 7), .inl (ca 0, 240, .inl (zA mo_kindOf))), ((aMo 8), .inl (ca 0, 240, .inl (zA mo_lengthOf))), ((aMo 13), .inl (ca 0, 20160, .inl (zA mo_laid))), ((aMo 14), .inl (ca 0, 20161, .inl (zA mo_driven))), ((aMo 15), .inl (ca 0, 60, .inl (zA mo_runFrom))), ((aMo 16), .inl (ca 0, 60, .inl (zA mo_runTo)))]) (k' := 0) (n' := 0) (ws' := fun _ => [((aMo 0), .inr (11, [.ref (aMo 1), .int (zI mo_taped), .ref (aMo 3), .ref (aMo 4), .ref (aMo 5), .ref (aMo 6), .ref (aMo 7), .ref (aMo 8), .ref (aMo 9), .ref (aMo 10), .ref (aMo 11), .ref (aMo 12), .ref (aMo 13), .ref (aMo 14), .ref (aMo 15), .ref (aMo 16), .int (zI mo_size), .int (zI mo_runs), .ref (aMo 19), .ref (aMo 20), .ref (aMo 21), .int (zI mo_found), .int (zI mo_counted), .int (zI mo_isParted), .ref (aMo 25), .ref (aMo 26), .ref (aMo 27), .ref (aMo 28), .ref (aMo 29), .int (zI mo_maybes), .int (zI mo_days), .int (zI mo_over2), .int (zI mo_longer), .ref (aMo 34)])), ((aMo 3), .inl (ca 0, 11, .inl (zA mo_rules))), ((aMo 5), .inl (ca 0, 4, .inl (zA mo_acts))), ((aMo 7), .inl (ca 0, 240, .inl (zA mo_kindOf))), ((aMo 8), .inl (ca 0, 240, .inl (zA mo_lengthOf))), ((aMo 13), .inl (ca 0, 20160, .inl (zA mo_laid))), ((aMo 14), .inl (ca 0, 20161, .inl (zA mo_driven))), ((aMo 15), .inl (ca 0, 60, .inl (zA mo_runFrom))), ((aMo 16), .inl (ca 0, 60, .inl (zA mo_runTo)))]) (st' := [.int (zI r_1)]) (kX11_isCard l D ca v1 r_1 hc_1) wml_RX11_110 wst_X11_isCard win_RX11 wco_X11_isCard (nA := 1) rfl (by decide +kernel)  ⟨(Nat.le_of_ble_eq_true rfl), (Nat.le_of_ble_eq_true rfl)⟩ (Nat.le_refl _) (Nat.le_refl _) rfl (by decide) dX11_most_1 [] [0, 1, 2, 3, 4, 5, 6, 7, 8] rfl rfl rfl (by decide) (by decide) (by decide) rfl rfl (fun _ => rfl) rfl (fun _ => ?_)
  refine g_if_eq (pc := 4) C (tgt := 18) dX11_most_4 (by decide) hf (fun hf => ?_) (fun hf => ?_)
  · refine g_sub [0, 1, 2, 3, 4, 5, 6, 7, 8] [] (by decide) rfl rfl rfl ?_
    exact H18 _ _ _ _ _ _ _ _ hf
  · refine g_iload_n (pc := 7) C 3 dX11_most_7 rfl rfl ?_
    refine g_if_lt (pc := 8) C (tgt := 18) dX11_most_8 (by decide) hf (fun hf => ?_) (fun hf => ?_)
    · refine g_sub [0, 1, 2, 3, 4, 5, 6, 7, 8] [] (by decide) rfl rfl rfl ?_
      exact H18 _ _ _ _ _ _ _ _ hf
    · refine g_iload_n (pc := 11) C 3 dX11_most_11 rfl rfl ?_
      refine g_sipush (pc := 12) C dX11_most_12 (by decide) ?_
      refine g_icmp_ler (pc := 15) C (tgt := 20) dX11_most_15 (by decide) (by decide) hf (fun hf => ?_) (fun hf => ?_)
      · refine g_aload_n (pc := 20) C 0 dX11_most_20 rfl rfl ?_
        refine g_iload_n (pc := 21) C 1 dX11_most_21 rfl rfl ?_
        refine g_iload_n (pc := 22) C 2 dX11_most_22 rfl rfl ?_
        obtain ⟨⟨mo_laid_23, mo_driven_23, mo_runFrom_23, mo_runTo_23, mo_size_23, mo_runs_23⟩, hc_23, hf⟩ := Option.bind_eq_some_iff.mp hf
        dsimp only at hf
        refine g_callV (pc := 23) C hl0 (wr := [((aMo 3), .inl (ca 0, 11, .inl (zA mo_rules)))]) (k' := 0) (n' := 0) (ws' := fun _ => [((aMo 3), .inl (ca 0, 11, .inl (zA mo_rules))), ((aMo 0), .inr (11, [.ref (aMo 1), .int (zI mo_taped), .ref (aMo 3), .ref (aMo 4), .ref (aMo 5), .ref (aMo 6), .ref (aMo 7), .ref (aMo 8), .ref (aMo 9), .ref (aMo 10), .ref (aMo 11), .ref (aMo 12), .ref (aMo 13), .ref (aMo 14), .ref (aMo 15), .ref (aMo 16), .int (zI mo_size_23), .int (zI mo_runs_23), .ref (aMo 19), .ref (aMo 20), .ref (aMo 21), .int (zI mo_found), .int (zI mo_counted), .int (zI mo_isParted), .ref (aMo 25), .ref (aMo 26), .ref (aMo 27), .ref (aMo 28), .ref (aMo 29), .int (zI mo_maybes), .int (zI mo_days), .int (zI mo_over2), .int (zI mo_longer), .ref (aMo 34)])), ((aMo 5), .inl (ca 0, 4, .inl (zA mo_acts))), ((aMo 7), .inl (ca 0, 240, .inl (zA mo_kindOf))), ((aMo 8), .inl (ca 0, 240, .inl (zA mo_lengthOf))), ((aMo 13), .inl (ca 0, 20160, .inl (zA mo_laid_23))), ((aMo 14), .inl (ca 0, 20161, .inl (zA mo_driven_23))), ((aMo 15), .inl (ca 0, 60, .inl (zA mo_runFrom_23))), ((aMo 16), .inl (ca 0, 60, .inl (zA mo_runTo_23)))]) (st' := []) (kX11_lays l D ca aMo mo_taped mo_acts mo_kindOf mo_lengthOf mo_laid mo_driven mo_runFrom mo_runTo mo_size mo_runs mo_found mo_counted mo_isParted mo_maybes mo_days mo_over2 mo_longer v1 v2 mo_laid_23 mo_driven_23 mo_runFrom_23 mo_runTo_23 mo_size_23 mo_runs_23 hc_23) wml_RX11_198 wim_X11_lays wse_X11_lays win_RX11 wco_X11_lays (nA := 2) rfl (by decide +kernel)  ⟨(Nat.le_of_ble_eq_true rfl), (Nat.le_of_ble_eq_true rfl)⟩ (Nat.le_refl _) (Nat.le_refl _) rfl (by decide) dX11_most_23 0 11 rfl rfl rfl [0, 2, 3, 4, 5, 6, 7, 8] [1] rfl rfl rfl (by decide) (by decide) (by decide) rfl rfl (fun _ => rfl) rfl (fun _ => ?_)
        refine g_aload_n (pc := 26) C 0 dX11_most_26 rfl rfl ?_
        obtain ⟨⟨r_27, mo_counted_27, mo_isParted_27⟩, hc_27, hf⟩ := Option.bind_eq_some_iff.mp hf
        dsimp only at hf
        refine g_callV (pc := 27) C hl0 (wr := [((aMo 5), .inl (ca 0, 4, .inl (zA mo_acts))), ((aMo 7), .inl (ca 0, 240, .inl (zA mo_kindOf))), ((aMo 8), .inl (ca 0, 240, .inl (zA mo_lengthOf))), ((aMo 13), .inl (ca 0, 20160, .inl (zA mo_laid_23)))]) (k' := 0) (n' := 0) (ws' := fun _ => [((aMo 5), .inl (ca 0, 4, .inl (zA mo_acts))), ((aMo 7), .inl (ca 0, 240, .inl (zA mo_kindOf))), ((aMo 8), .inl (ca 0, 240, .inl (zA mo_lengthOf))), ((aMo 13), .inl (ca 0, 20160, .inl (zA mo_laid_23))), ((aMo 0), .inr (11, [.ref (aMo 1), .int (zI mo_taped), .ref (aMo 3), .ref (aMo 4), .ref (aMo 5), .ref (aMo 6), .ref (aMo 7), .ref (aMo 8), .ref (aMo 9), .ref (aMo 10), .ref (aMo 11), .ref (aMo 12), .ref (aMo 13), .ref (aMo 14), .ref (aMo 15), .ref (aMo 16), .int (zI mo_size_23), .int (zI mo_runs_23), .ref (aMo 19), .ref (aMo 20), .ref (aMo 21), .int (zI mo_found), .int (zI mo_counted_27), .int (zI mo_isParted_27), .ref (aMo 25), .ref (aMo 26), .ref (aMo 27), .ref (aMo 28), .ref (aMo 29), .int (zI mo_maybes), .int (zI mo_days), .int (zI mo_over2), .int (zI mo_longer), .ref (aMo 34)])), ((aMo 3), .inl (ca 0, 11, .inl (zA mo_rules))), ((aMo 14), .inl (ca 0, 20161, .inl (zA mo_driven_23))), ((aMo 15), .inl (ca 0, 60, .inl (zA mo_runFrom_23))), ((aMo 16), .inl (ca 0, 60, .inl (zA mo_runTo_23)))]) (st' := [.int (zI r_27)]) (kX11_open l D ca aMo mo_taped mo_rules mo_driven_23 mo_runFrom_23 mo_runTo_23 mo_size_23 mo_runs_23 mo_found mo_counted mo_isParted mo_maybes mo_days mo_over2 mo_longer r_27 mo_counted_27 mo_isParted_27 hc_27) wml_RX11_214 wim_X11_open wse_X11_open win_RX11 wco_X11_open (nA := 0) rfl (by decide +kernel)  ⟨(Nat.le_of_ble_eq_true rfl), (Nat.le_of_ble_eq_true rfl)⟩ (Nat.le_refl _) (Nat.le_refl _) rfl (by decide) dX11_most_27 1 11 rfl rfl rfl [1, 0, 6, 7, 8] [2, 3, 4, 5] rfl rfl rfl (by decide) (by decide) (by decide) rfl rfl (fun _ => rfl) rfl (fun _ => ?_)
        refine g_istore (pc := 30) C (lv' := [(4, .int (zI r_27)), (0, .ref (aMo 0)), (1, .int (zI v1)), (2, .int (zI v2)), (3, .int (zI v3))]) dX11_most_30 (Nat.le_of_ble_eq_true rfl) rfl ?_
        refine g_aload_n (pc := 32) C 1 dX11_most_32 rfl rfl ?_
        refine g_get (pc := 33) C zf_X11_138 4 rfl rfl dX11_most_33 ?_
        refine g_aload_n (pc := 36) C 1 dX11_most_36 rfl rfl ?_
        refine g_get (pc := 37) C zf_X11_13 4 rfl rfl dX11_most_37 ?_
        refine g_iconst (pc := 40) C dX11_most_40 ?_
        refine g_ialdK (pc := 41) C 0 5 rfl rfl (Nat.le_of_ble_eq_true rfl) (Nat.le_of_ble_eq_true rfl) dX11_most_41 ?_
        refine g_icmp_ge (pc := 42) C (tgt := 59) dX11_most_42 (by decide) hf (fun hf => ?_) (fun hf => ?_)
        · refine g_iconst (pc := 59) C dX11_most_59 ?_
          refine g_sub [4, 5, 0, 1, 2, 3, 6, 7, 8] [1, 4, 0] (by decide) rfl rfl rfl ?_
          exact H60 _ _ _ _ _ _ _ _ _ _ hf
        · refine g_aload_n (pc := 45) C 1 dX11_most_45 rfl rfl ?_
          refine g_get (pc := 46) C zf_X11_13 4 rfl rfl dX11_most_46 ?_
          refine g_iconst (pc := 49) C dX11_most_49 ?_
          refine g_ialdK (pc := 50) C 0 5 rfl rfl (Nat.le_of_ble_eq_true rfl) (Nat.le_of_ble_eq_true rfl) dX11_most_50 ?_
          refine g_aload_n (pc := 51) C 1 dX11_most_51 rfl rfl ?_
          refine g_get (pc := 52) C zf_X11_138 4 rfl rfl dX11_most_52 ?_
          refine g_isub (pc := 55) C dX11_most_55 ?_
          refine g_goto (pc := 56) C (tgt := 60) dX11_most_56 (by decide) ?_
          refine g_sub [4, 5, 0, 1, 2, 3, 6, 7, 8] [1, 4, 0] (by decide) rfl rfl rfl ?_
          exact H60 _ _ _ _ _ _ _ _ _ _ hf
      · refine g_sub [0, 1, 2, 3, 4, 5, 6, 7, 8] [] (by decide) rfl rfl rfl ?_
        exact H18 _ _ _ _ _ _ _ _ hf
set_option maxRecDepth 100000 in
theorem kX11_put (l : Launch) (D : va_G) (ca : Nat → ClassId) (aMo : Nat → Nat) (mo_taped : Int) (mo_acts : Nat → Int) (mo_kindOf : Nat → Int) (mo_vehicleOf : Nat → Int) (mo_size : Int) (mo_runs : Int) (mo_found : Int) (mo_counted : Int) (mo_isParted : Int) (mo_maybes : Int) (mo_days : Int) (mo_over2 : Int) (mo_longer : Int) (v1 : Int) (v2 : Int) (v3 : Int) (v4 : Int) (r_o : Int) (mo_kindOf_o : Nat → Int) (mo_vehicleOf_o : Nat → Int)
    (hf : fX11_put v1 v2 v3 v4 mo_acts mo_kindOf mo_vehicleOf = some (r_o, mo_kindOf_o, mo_vehicleOf_o)) : Zc l D ca yX11_put cX11_put 5 (some .boolean) { frames := 1, cells := 0, slots := 0, locals := 21 } [.ref (aMo 0), .int (zI v1), .int (zI v2), .int (zI v3), .int (zI v4)] [((aMo 0), .inr (11, [.ref (aMo 1), .int (zI mo_taped), .ref (aMo 3), .ref (aMo 4), .ref (aMo 5), .ref (aMo 6), .ref (aMo 7), .ref (aMo 8), .ref (aMo 9), .ref (aMo 10), .ref (aMo 11), .ref (aMo 12), .ref (aMo 13), .ref (aMo 14), .ref (aMo 15), .ref (aMo 16), .int (zI mo_size), .int (zI mo_runs), .ref (aMo 19), .ref (aMo 20), .ref (aMo 21), .int (zI mo_found), .int (zI mo_counted), .int (zI mo_isParted), .ref (aMo 25), .ref (aMo 26), .ref (aMo 27), .ref (aMo 28), .ref (aMo 29), .int (zI mo_maybes), .int (zI mo_days), .int (zI mo_over2), .int (zI mo_longer), .ref (aMo 34)])), ((aMo 5), .inl (ca 0, 4, .inl (zA mo_acts))), ((aMo 7), .inl (ca 0, 240, .inl (zA mo_kindOf))), ((aMo 9), .inl (ca 0, 240, .inl (zA mo_vehicleOf)))] (some (.int (zI r_o))) (fun _ => [((aMo 0), .inr (11, [.ref (aMo 1), .int (zI mo_taped), .ref (aMo 3), .ref (aMo 4), .ref (aMo 5), .ref (aMo 6), .ref (aMo 7), .ref (aMo 8), .ref (aMo 9), .ref (aMo 10), .ref (aMo 11), .ref (aMo 12), .ref (aMo 13), .ref (aMo 14), .ref (aMo 15), .ref (aMo 16), .int (zI mo_size), .int (zI mo_runs), .ref (aMo 19), .ref (aMo 20), .ref (aMo 21), .int (zI mo_found), .int (zI mo_counted), .int (zI mo_isParted), .ref (aMo 25), .ref (aMo 26), .ref (aMo 27), .ref (aMo 28), .ref (aMo 29), .int (zI mo_maybes), .int (zI mo_days), .int (zI mo_over2), .int (zI mo_longer), .ref (aMo 34)])), ((aMo 5), .inl (ca 0, 4, .inl (zA mo_acts))), ((aMo 7), .inl (ca 0, 240, .inl (zA mo_kindOf_o))), ((aMo 9), .inl (ca 0, 240, .inl (zA mo_vehicleOf_o)))]) := by
  refine ctr_of (lv := [(0, .ref (aMo 0)), (1, .int (zI v1)), (2, .int (zI v2)), (3, .int (zI v3)), (4, .int (zI v4))]) (by decide +kernel) (Nat.le_of_ble_eq_true rfl) rfl (fun Γ hl0 C E hnm => ?_)
  have H30 : ∀ (mo_kindOf : Nat → Int) (mo_vehicleOf : Nat → Int), fX11_put_30 mo_kindOf mo_vehicleOf = some (r_o, mo_kindOf_o, mo_vehicleOf_o) → Zd D Γ 0 0 [((aMo 0), .inr (11, [.ref (aMo 1), .int (zI mo_taped), .ref (aMo 3), .ref (aMo 4), .ref (aMo 5), .ref (aMo 6), .ref (aMo 7), .ref (aMo 8), .ref (aMo 9), .ref (aMo 10), .ref (aMo 11), .ref (aMo 12), .ref (aMo 13), .ref (aMo 14), .ref (aMo 15), .ref (aMo 16), .int (zI mo_size), .int (zI mo_runs), .ref (aMo 19), .ref (aMo 20), .ref (aMo 21), .int (zI mo_found), .int (zI mo_counted), .int (zI mo_isParted), .ref (aMo 25), .ref (aMo 26), .ref (aMo 27), .ref (aMo 28), .ref (aMo 29), .int (zI mo_maybes), .int (zI mo_days), .int (zI mo_over2), .int (zI mo_longer), .ref (aMo 34)])), ((aMo 5), .inl (ca 0, 4, .inl (zA mo_acts))), ((aMo 7), .inl (ca 0, 240, .inl (zA mo_kindOf))), ((aMo 9), .inl (ca 0, 240, .inl (zA mo_vehicleOf)))] 30 [] [] := by
    intro mo_kindOf mo_vehicleOf hf
    unfold fX11_put_30 at hf
    refine g_iconst (pc := 30) C dX11_put_30 ?_
    cases hf
    exact g_zret (pc := 31) C E (by decide) (fun _ => 0) [0, 1, 2, 3] (by decide) rfl rfl (Nat.le_refl _) (Nat.le_refl _) dX11_put_31
  have H64 : ∀ (s1 : Int) (s2 : Int) (mo_kindOf : Nat → Int) (mo_vehicleOf : Nat → Int), fX11_put_64 s1 s2 mo_kindOf mo_vehicleOf = some (r_o, mo_kindOf_o, mo_vehicleOf_o) → Zd D Γ 0 0 [((aMo 0), .inr (11, [.ref (aMo 1), .int (zI mo_taped), .ref (aMo 3), .ref (aMo 4), .ref (aMo 5), .ref (aMo 6), .ref (aMo 7), .ref (aMo 8), .ref (aMo 9), .ref (aMo 10), .ref (aMo 11), .ref (aMo 12), .ref (aMo 13), .ref (aMo 14), .ref (aMo 15), .ref (aMo 16), .int (zI mo_size), .int (zI mo_runs), .ref (aMo 19), .ref (aMo 20), .ref (aMo 21), .int (zI mo_found), .int (zI mo_counted), .int (zI mo_isParted), .ref (aMo 25), .ref (aMo 26), .ref (aMo 27), .ref (aMo 28), .ref (aMo 29), .int (zI mo_maybes), .int (zI mo_days), .int (zI mo_over2), .int (zI mo_longer), .ref (aMo 34)])), ((aMo 5), .inl (ca 0, 4, .inl (zA mo_acts))), ((aMo 7), .inl (ca 0, 240, .inl (zA mo_kindOf))), ((aMo 9), .inl (ca 0, 240, .inl (zA mo_vehicleOf)))] 64 [] [.int (zI s2), .int (zI s1), .ref (aMo 9)] := by
    intro s1 s2 mo_kindOf mo_vehicleOf hf
    unfold fX11_put_64 at hf
    refine g_iast (pc := 64) C (N := 240) (ws' := [((aMo 0), .inr (11, [.ref (aMo 1), .int (zI mo_taped), .ref (aMo 3), .ref (aMo 4), .ref (aMo 5), .ref (aMo 6), .ref (aMo 7), .ref (aMo 8), .ref (aMo 9), .ref (aMo 10), .ref (aMo 11), .ref (aMo 12), .ref (aMo 13), .ref (aMo 14), .ref (aMo 15), .ref (aMo 16), .int (zI mo_size), .int (zI mo_runs), .ref (aMo 19), .ref (aMo 20), .ref (aMo 21), .int (zI mo_found), .int (zI mo_counted), .int (zI mo_isParted), .ref (aMo 25), .ref (aMo 26), .ref (aMo 27), .ref (aMo 28), .ref (aMo 29), .int (zI mo_maybes), .int (zI mo_days), .int (zI mo_over2), .int (zI mo_longer), .ref (aMo 34)])), ((aMo 5), .inl (ca 0, 4, .inl (zA mo_acts))), ((aMo 7), .inl (ca 0, 240, .inl (zA mo_kindOf))), ((aMo 9), .inl (ca 0, 240, .inl (zA (zU mo_vehicleOf s1.toNat s2))))]) 3 rfl rfl (Nat.le_of_ble_eq_true rfl) rfl dX11_put_64 hf (fun hf => ?_)
    refine g_iconst (pc := 65) C dX11_put_65 ?_
    cases hf
    exact g_zret (pc := 66) C E (by decide) (fun _ => 0) [0, 1, 2, 3] (by decide) rfl rfl (Nat.le_refl _) (Nat.le_refl _) dX11_put_66
  unfold fX11_put at hf
  refine g_iload_n (pc := 0) C 1 dX11_put_0 rfl rfl ?_
  obtain ⟨r_1, hc_1, hf⟩ := Option.bind_eq_some_iff.mp hf
  refine g_callS (pc := 1) C hl0 (wr := [((aMo 0), .inr (11, [.ref (aMo 1), .int (zI mo_taped), .ref (aMo 3), .ref (aMo 4), .ref (aMo 5), .ref (aMo 6), .ref (aMo 7), .ref (aMo 8), .ref (aMo 9), .ref (aMo 10), .ref (aMo 11), .ref (aMo 12), .ref (aMo 13), .ref (aMo 14), .ref (aMo 15), .ref (aMo 16), .int (zI mo_size), .int (zI mo_runs), .ref (aMo 19), .ref (aMo 20), .ref (aMo 21), .int (zI mo_found), .int (zI mo_counted), .int (zI mo_isParted), .ref (aMo 25), .ref (aMo 26), .ref (aMo 27), .ref (aMo 28), .ref (aMo 29), .int (zI mo_maybes), .int (zI mo_days), .int (zI mo_over2), .int (zI mo_longer), .ref (aMo 34)])), ((aMo 5), .inl (ca 0, 4, .inl (zA mo_acts))), ((aMo 7), .inl (ca 0, 240, .inl (zA mo_kindOf))), ((aMo 9), .inl (ca 0, 240, .inl (zA mo_vehicleOf)))]) (k' := 0) (n' := 0) (ws' := fun _ => [((aMo 0), .inr (11, [.ref (aMo 1), .int (zI mo_taped), .ref (aMo 3), .ref (aMo 4), .ref (aMo 5), .ref (aMo 6), .ref (aMo 7), .ref (aMo 8), .ref (aMo 9), .ref (aMo 10), .ref (aMo 11), .ref (aMo 12), .ref (aMo 13), .ref (aMo 14), .ref (aMo 15), .ref (aMo 16), .int (zI mo_size), .int (zI mo_runs), .ref (aMo 19), .ref (aMo 20), .ref (aMo 21), .int (zI mo_found), .int (zI mo_counted), .int (zI mo_isParted), .ref (aMo 25), .ref (aMo 26), .ref (aMo 27), .ref (aMo 28), .ref (aMo 29), .int (zI mo_maybes), .int (zI mo_days), .int (zI mo_over2), .int (zI mo_longer), .ref (aMo 34)])), ((aMo 5), .inl (ca 0, 4, .inl (zA mo_acts))), ((aMo 7), .inl (ca 0, 240, .inl (zA mo_kindOf))), ((aMo 9), .inl (ca 0, 240, .inl (zA mo_vehicleOf)))]) (st' := [.int (zI r_1)]) (kX11_isCard l D ca v1 r_1 hc_1) wml_RX11_110 wst_X11_isCard win_RX11 wco_X11_isCard (nA := 1) rfl (by decide +kernel)  ⟨(Nat.le_of_ble_eq_true rfl), (Nat.le_of_ble_eq_true rfl)⟩ (Nat.le_refl _) (Nat.le_refl _) rfl (by decide) dX11_put_1 [] [0, 1, 2, 3] rfl rfl rfl (by decide) (by decide) (by decide) rfl rfl (fun _ => rfl) rfl (fun _ => ?_)
  refine g_if_eq (pc := 4) C (tgt := 30) dX11_put_4 (by decide) hf (fun hf => ?_) (fun hf => ?_)
  · refine g_sub [0, 1, 2, 3] [] (by decide) rfl rfl rfl ?_
    exact H30 _ _ hf
  · refine g_iload_n (pc := 7) C 2 dX11_put_7 rfl rfl ?_
    refine g_if_lt (pc := 8) C (tgt := 30) dX11_put_8 (by decide) hf (fun hf => ?_) (fun hf => ?_)
    · refine g_sub [0, 1, 2, 3] [] (by decide) rfl rfl rfl ?_
      exact H30 _ _ hf
    · refine g_iload_n (pc := 11) C 2 dX11_put_11 rfl rfl ?_
      refine g_aload_n (pc := 12) C 0 dX11_put_12 rfl rfl ?_
      refine g_get (pc := 13) C zf_X11_20 0 rfl rfl dX11_put_13 ?_
      refine g_iload_n (pc := 16) C 1 dX11_put_16 rfl rfl ?_
      refine g_iald (pc := 17) C (N := 4) 1 rfl rfl (Nat.le_of_ble_eq_true rfl) dX11_put_17 hf (fun hf => ?_)
      refine g_icmp_ge (pc := 18) C (tgt := 30) dX11_put_18 (by decide) hf (fun hf => ?_) (fun hf => ?_)
      · refine g_sub [0, 1, 2, 3] [] (by decide) rfl rfl rfl ?_
        exact H30 _ _ hf
      · refine g_iload_n (pc := 21) C 3 dX11_put_21 rfl rfl ?_
        refine g_iload (pc := 22) C 4 dX11_put_22 rfl ?_
        obtain ⟨r_24, hc_24, hf⟩ := Option.bind_eq_some_iff.mp hf
        refine g_callS (pc := 24) C hl0 (wr := [((aMo 0), .inr (11, [.ref (aMo 1), .int (zI mo_taped), .ref (aMo 3), .ref (aMo 4), .ref (aMo 5), .ref (aMo 6), .ref (aMo 7), .ref (aMo 8), .ref (aMo 9), .ref (aMo 10), .ref (aMo 11), .ref (aMo 12), .ref (aMo 13), .ref (aMo 14), .ref (aMo 15), .ref (aMo 16), .int (zI mo_size), .int (zI mo_runs), .ref (aMo 19), .ref (aMo 20), .ref (aMo 21), .int (zI mo_found), .int (zI mo_counted), .int (zI mo_isParted), .ref (aMo 25), .ref (aMo 26), .ref (aMo 27), .ref (aMo 28), .ref (aMo 29), .int (zI mo_maybes), .int (zI mo_days), .int (zI mo_over2), .int (zI mo_longer), .ref (aMo 34)])), ((aMo 5), .inl (ca 0, 4, .inl (zA mo_acts))), ((aMo 7), .inl (ca 0, 240, .inl (zA mo_kindOf))), ((aMo 9), .inl (ca 0, 240, .inl (zA mo_vehicleOf)))]) (k' := 0) (n' := 0) (ws' := fun _ => [((aMo 0), .inr (11, [.ref (aMo 1), .int (zI mo_taped), .ref (aMo 3), .ref (aMo 4), .ref (aMo 5), .ref (aMo 6), .ref (aMo 7), .ref (aMo 8), .ref (aMo 9), .ref (aMo 10), .ref (aMo 11), .ref (aMo 12), .ref (aMo 13), .ref (aMo 14), .ref (aMo 15), .ref (aMo 16), .int (zI mo_size), .int (zI mo_runs), .ref (aMo 19), .ref (aMo 20), .ref (aMo 21), .int (zI mo_found), .int (zI mo_counted), .int (zI mo_isParted), .ref (aMo 25), .ref (aMo 26), .ref (aMo 27), .ref (aMo 28), .ref (aMo 29), .int (zI mo_maybes), .int (zI mo_days), .int (zI mo_over2), .int (zI mo_longer), .ref (aMo 34)])), ((aMo 5), .inl (ca 0, 4, .inl (zA mo_acts))), ((aMo 7), .inl (ca 0, 240, .inl (zA mo_kindOf))), ((aMo 9), .inl (ca 0, 240, .inl (zA mo_vehicleOf)))]) (st' := [.int (zI r_24)]) (kX11_isKind l D ca v3 v4 r_24 hc_24) wml_RX11_114 wst_X11_isKind win_RX11 wco_X11_isKind (nA := 2) rfl (by decide +kernel)  ⟨(Nat.le_of_ble_eq_true rfl), (Nat.le_of_ble_eq_true rfl)⟩ (Nat.le_refl _) (Nat.le_refl _) rfl (by decide) dX11_put_24 [] [0, 1, 2, 3] rfl rfl rfl (by decide) (by decide) (by decide) rfl rfl (fun _ => rfl) rfl (fun _ => ?_)
        refine g_if_ne (pc := 27) C (tgt := 32) dX11_put_27 (by decide) hf (fun hf => ?_) (fun hf => ?_)
        · refine g_aload_n (pc := 32) C 0 dX11_put_32 rfl rfl ?_
          refine g_get (pc := 33) C zf_X11_26 0 rfl rfl dX11_put_33 ?_
          refine g_bipush (pc := 36) C dX11_put_36 (by decide) ?_
          refine g_iload_n (pc := 38) C 1 dX11_put_38 rfl rfl ?_
          refine g_imul (pc := 39) C dX11_put_39 ?_
          refine g_iload_n (pc := 40) C 2 dX11_put_40 rfl rfl ?_
          refine g_iadd (pc := 41) C dX11_put_41 ?_
          refine g_iload_n (pc := 42) C 3 dX11_put_42 rfl rfl ?_
          refine g_iast (pc := 43) C (N := 240) (ws' := [((aMo 0), .inr (11, [.ref (aMo 1), .int (zI mo_taped), .ref (aMo 3), .ref (aMo 4), .ref (aMo 5), .ref (aMo 6), .ref (aMo 7), .ref (aMo 8), .ref (aMo 9), .ref (aMo 10), .ref (aMo 11), .ref (aMo 12), .ref (aMo 13), .ref (aMo 14), .ref (aMo 15), .ref (aMo 16), .int (zI mo_size), .int (zI mo_runs), .ref (aMo 19), .ref (aMo 20), .ref (aMo 21), .int (zI mo_found), .int (zI mo_counted), .int (zI mo_isParted), .ref (aMo 25), .ref (aMo 26), .ref (aMo 27), .ref (aMo 28), .ref (aMo 29), .int (zI mo_maybes), .int (zI mo_days), .int (zI mo_over2), .int (zI mo_longer), .ref (aMo 34)])), ((aMo 5), .inl (ca 0, 4, .inl (zA mo_acts))), ((aMo 7), .inl (ca 0, 240, .inl (zA (zU mo_kindOf ((60 * v1) + v2).toNat v3)))), ((aMo 9), .inl (ca 0, 240, .inl (zA mo_vehicleOf)))]) 2 rfl rfl (Nat.le_of_ble_eq_true rfl) rfl dX11_put_43 hf (fun hf => ?_)
          refine g_aload_n (pc := 44) C 0 dX11_put_44 rfl rfl ?_
          refine g_get (pc := 45) C zf_X11_32 0 rfl rfl dX11_put_45 ?_
          refine g_bipush (pc := 48) C dX11_put_48 (by decide) ?_
          refine g_iload_n (pc := 50) C 1 dX11_put_50 rfl rfl ?_
          refine g_imul (pc := 51) C dX11_put_51 ?_
          refine g_iload_n (pc := 52) C 2 dX11_put_52 rfl rfl ?_
          refine g_iadd (pc := 53) C dX11_put_53 ?_
          refine g_iload_n (pc := 54) C 3 dX11_put_54 rfl rfl ?_
          refine g_if_ne (pc := 55) C (tgt := 63) dX11_put_55 (by decide) hf (fun hf => ?_) (fun hf => ?_)
          · refine g_iconst (pc := 63) C dX11_put_63 ?_
            refine g_sub [0, 1, 2, 3] [] (by decide) rfl rfl rfl ?_
            exact H64 _ _ _ _ hf
          · refine g_iload (pc := 58) C 4 dX11_put_58 rfl ?_
            refine g_goto (pc := 60) C (tgt := 64) dX11_put_60 (by decide) ?_
            refine g_sub [0, 1, 2, 3] [] (by decide) rfl rfl rfl ?_
            exact H64 _ _ _ _ hf
        · refine g_sub [0, 1, 2, 3] [] (by decide) rfl rfl rfl ?_
          exact H30 _ _ hf
set_option maxRecDepth 100000 in
theorem kX11_rule (l : Launch) (D : va_G) (ca : Nat → ClassId) (aMo : Nat → Nat) (mo_taped : Int) (mo_rules : Nat → Int) (mo_size : Int) (mo_runs : Int) (mo_found : Int) (mo_counted : Int) (mo_isParted : Int) (mo_maybes : Int) (mo_days : Int) (mo_over2 : Int) (mo_longer : Int) (v1 : Int) (r_o : Int)
    (hf : fX11_rule v1 mo_rules = some r_o) : Zc l D ca yX11_rule cX11_rule 3 (some .int) { frames := 1, cells := 0, slots := 0, locals := 20 } [.ref (aMo 0), .int (zI v1)] [((aMo 0), .inr (11, [.ref (aMo 1), .int (zI mo_taped), .ref (aMo 3), .ref (aMo 4), .ref (aMo 5), .ref (aMo 6), .ref (aMo 7), .ref (aMo 8), .ref (aMo 9), .ref (aMo 10), .ref (aMo 11), .ref (aMo 12), .ref (aMo 13), .ref (aMo 14), .ref (aMo 15), .ref (aMo 16), .int (zI mo_size), .int (zI mo_runs), .ref (aMo 19), .ref (aMo 20), .ref (aMo 21), .int (zI mo_found), .int (zI mo_counted), .int (zI mo_isParted), .ref (aMo 25), .ref (aMo 26), .ref (aMo 27), .ref (aMo 28), .ref (aMo 29), .int (zI mo_maybes), .int (zI mo_days), .int (zI mo_over2), .int (zI mo_longer), .ref (aMo 34)])), ((aMo 3), .inl (ca 0, 11, .inl (zA mo_rules)))] (some (.int (zI r_o))) (fun _ => [((aMo 0), .inr (11, [.ref (aMo 1), .int (zI mo_taped), .ref (aMo 3), .ref (aMo 4), .ref (aMo 5), .ref (aMo 6), .ref (aMo 7), .ref (aMo 8), .ref (aMo 9), .ref (aMo 10), .ref (aMo 11), .ref (aMo 12), .ref (aMo 13), .ref (aMo 14), .ref (aMo 15), .ref (aMo 16), .int (zI mo_size), .int (zI mo_runs), .ref (aMo 19), .ref (aMo 20), .ref (aMo 21), .int (zI mo_found), .int (zI mo_counted), .int (zI mo_isParted), .ref (aMo 25), .ref (aMo 26), .ref (aMo 27), .ref (aMo 28), .ref (aMo 29), .int (zI mo_maybes), .int (zI mo_days), .int (zI mo_over2), .int (zI mo_longer), .ref (aMo 34)])), ((aMo 3), .inl (ca 0, 11, .inl (zA mo_rules)))]) := by
  refine ctr_of (lv := [(0, .ref (aMo 0)), (1, .int (zI v1))]) (by decide +kernel) (Nat.le_of_ble_eq_true rfl) rfl (fun Γ hl0 C E hnm => ?_)
  unfold fX11_rule at hf
  refine g_iload_n (pc := 0) C 1 dX11_rule_0 rfl rfl ?_
  obtain ⟨r_1, hc_1, hf⟩ := Option.bind_eq_some_iff.mp hf
  refine g_callS (pc := 1) C hl0 (wr := [((aMo 0), .inr (11, [.ref (aMo 1), .int (zI mo_taped), .ref (aMo 3), .ref (aMo 4), .ref (aMo 5), .ref (aMo 6), .ref (aMo 7), .ref (aMo 8), .ref (aMo 9), .ref (aMo 10), .ref (aMo 11), .ref (aMo 12), .ref (aMo 13), .ref (aMo 14), .ref (aMo 15), .ref (aMo 16), .int (zI mo_size), .int (zI mo_runs), .ref (aMo 19), .ref (aMo 20), .ref (aMo 21), .int (zI mo_found), .int (zI mo_counted), .int (zI mo_isParted), .ref (aMo 25), .ref (aMo 26), .ref (aMo 27), .ref (aMo 28), .ref (aMo 29), .int (zI mo_maybes), .int (zI mo_days), .int (zI mo_over2), .int (zI mo_longer), .ref (aMo 34)])), ((aMo 3), .inl (ca 0, 11, .inl (zA mo_rules)))]) (k' := 0) (n' := 0) (ws' := fun _ => [((aMo 0), .inr (11, [.ref (aMo 1), .int (zI mo_taped), .ref (aMo 3), .ref (aMo 4), .ref (aMo 5), .ref (aMo 6), .ref (aMo 7), .ref (aMo 8), .ref (aMo 9), .ref (aMo 10), .ref (aMo 11), .ref (aMo 12), .ref (aMo 13), .ref (aMo 14), .ref (aMo 15), .ref (aMo 16), .int (zI mo_size), .int (zI mo_runs), .ref (aMo 19), .ref (aMo 20), .ref (aMo 21), .int (zI mo_found), .int (zI mo_counted), .int (zI mo_isParted), .ref (aMo 25), .ref (aMo 26), .ref (aMo 27), .ref (aMo 28), .ref (aMo 29), .int (zI mo_maybes), .int (zI mo_days), .int (zI mo_over2), .int (zI mo_longer), .ref (aMo 34)])), ((aMo 3), .inl (ca 0, 11, .inl (zA mo_rules)))]) (st' := [.int (zI r_1)]) (kX11_letterOf l D ca v1 r_1 hc_1) wml_RX11_96 wst_X11_letterOf win_RX11 wco_X11_letterOf (nA := 1) rfl (by decide +kernel)  ⟨(Nat.le_of_ble_eq_true rfl), (Nat.le_of_ble_eq_true rfl)⟩ (Nat.le_refl _) (Nat.le_refl _) rfl (by decide) dX11_rule_1 [] [0, 1] rfl rfl rfl (by decide) (by decide) (by decide) rfl rfl (fun _ => rfl) rfl (fun _ => ?_)
  refine g_istore_n (pc := 4) C (lv' := [(2, .int (zI r_1)), (0, .ref (aMo 0)), (1, .int (zI v1))]) dX11_rule_4 rfl (Nat.le_of_ble_eq_true rfl) rfl ?_
  refine g_iload_n (pc := 5) C 0 dX11_rule_5 rfl rfl ?_
  refine g_iconst (pc := 6) C dX11_rule_6 ?_
  refine g_icmp_ner (pc := 7) C (tgt := 14) dX11_rule_7 (by decide) (by decide) hf (fun hf => ?_) (fun hf => ?_)
  · refine g_aload_n (pc := 14) C 1 dX11_rule_14 rfl rfl ?_
    refine g_get (pc := 15) C zf_X11_13 0 rfl rfl dX11_rule_15 ?_
    refine g_iload_n (pc := 18) C 0 dX11_rule_18 rfl rfl ?_
    refine g_iald (pc := 19) C (N := 11) 1 rfl rfl (Nat.le_of_ble_eq_true rfl) dX11_rule_19 hf (fun hf => ?_)
    cases hf
    exact g_iret (pc := 20) C E (fun _ => 0) [0, 1] (by decide) rfl rfl (Nat.le_refl _) (Nat.le_refl _) dX11_rule_20
  · refine g_iconst (pc := 10) C dX11_rule_10 ?_
    refine g_goto (pc := 11) C (tgt := 20) dX11_rule_11 (by decide) ?_
    cases hf
    exact g_iret (pc := 20) C E (fun _ => 0) [0, 1] (by decide) rfl rfl (Nat.le_refl _) (Nat.le_refl _) dX11_rule_20
set_option maxRecDepth 100000 in
theorem kX11_trip (l : Launch) (D : va_G) (ca : Nat → ClassId) (aMo : Nat → Nat) (mo_taped : Int) (mo_trips : Nat → Int) (mo_tripFrom : Nat → Int) (mo_tripTo : Nat → Int) (mo_size : Int) (mo_runs : Int) (mo_found : Int) (mo_counted : Int) (mo_isParted : Int) (mo_maybes : Int) (mo_days : Int) (mo_over2 : Int) (mo_longer : Int) (v1 : Int) (v2 : Int) (v3 : Int) (r_o : Int) (mo_trips_o : Nat → Int) (mo_tripFrom_o : Nat → Int) (mo_tripTo_o : Nat → Int)
    (hf : fX11_trip v1 v2 v3 mo_trips mo_tripFrom mo_tripTo = some (r_o, mo_trips_o, mo_tripFrom_o, mo_tripTo_o)) : Zc l D ca yX11_trip cX11_trip 5 (some .boolean) { frames := 0, cells := 0, slots := 0, locals := 0 } [.ref (aMo 0), .int (zI v1), .int (zI v2), .int (zI v3)] [((aMo 0), .inr (11, [.ref (aMo 1), .int (zI mo_taped), .ref (aMo 3), .ref (aMo 4), .ref (aMo 5), .ref (aMo 6), .ref (aMo 7), .ref (aMo 8), .ref (aMo 9), .ref (aMo 10), .ref (aMo 11), .ref (aMo 12), .ref (aMo 13), .ref (aMo 14), .ref (aMo 15), .ref (aMo 16), .int (zI mo_size), .int (zI mo_runs), .ref (aMo 19), .ref (aMo 20), .ref (aMo 21), .int (zI mo_found), .int (zI mo_counted), .int (zI mo_isParted), .ref (aMo 25), .ref (aMo 26), .ref (aMo 27), .ref (aMo 28), .ref (aMo 29), .int (zI mo_maybes), .int (zI mo_days), .int (zI mo_over2), .int (zI mo_longer), .ref (aMo 34)])), ((aMo 10), .inl (ca 0, 2, .inl (zA mo_trips))), ((aMo 11), .inl (ca 0, 40, .inl (zA mo_tripFrom))), ((aMo 12), .inl (ca 0, 40, .inl (zA mo_tripTo)))] (some (.int (zI r_o))) (fun _ => [((aMo 0), .inr (11, [.ref (aMo 1), .int (zI mo_taped), .ref (aMo 3), .ref (aMo 4), .ref (aMo 5), .ref (aMo 6), .ref (aMo 7), .ref (aMo 8), .ref (aMo 9), .ref (aMo 10), .ref (aMo 11), .ref (aMo 12), .ref (aMo 13), .ref (aMo 14), .ref (aMo 15), .ref (aMo 16), .int (zI mo_size), .int (zI mo_runs), .ref (aMo 19), .ref (aMo 20), .ref (aMo 21), .int (zI mo_found), .int (zI mo_counted), .int (zI mo_isParted), .ref (aMo 25), .ref (aMo 26), .ref (aMo 27), .ref (aMo 28), .ref (aMo 29), .int (zI mo_maybes), .int (zI mo_days), .int (zI mo_over2), .int (zI mo_longer), .ref (aMo 34)])), ((aMo 10), .inl (ca 0, 2, .inl (zA mo_trips_o))), ((aMo 11), .inl (ca 0, 40, .inl (zA mo_tripFrom_o))), ((aMo 12), .inl (ca 0, 40, .inl (zA mo_tripTo_o)))]) := by
  refine ctr_of (lv := [(0, .ref (aMo 0)), (1, .int (zI v1)), (2, .int (zI v2)), (3, .int (zI v3))]) (by decide +kernel) (Nat.le_of_ble_eq_true rfl) rfl (fun Γ hl0 C E hnm => ?_)
  have H36 : ∀ (mo_trips : Nat → Int) (mo_tripFrom : Nat → Int) (mo_tripTo : Nat → Int), fX11_trip_36 mo_trips mo_tripFrom mo_tripTo = some (r_o, mo_trips_o, mo_tripFrom_o, mo_tripTo_o) → Zd D Γ 0 0 [((aMo 0), .inr (11, [.ref (aMo 1), .int (zI mo_taped), .ref (aMo 3), .ref (aMo 4), .ref (aMo 5), .ref (aMo 6), .ref (aMo 7), .ref (aMo 8), .ref (aMo 9), .ref (aMo 10), .ref (aMo 11), .ref (aMo 12), .ref (aMo 13), .ref (aMo 14), .ref (aMo 15), .ref (aMo 16), .int (zI mo_size), .int (zI mo_runs), .ref (aMo 19), .ref (aMo 20), .ref (aMo 21), .int (zI mo_found), .int (zI mo_counted), .int (zI mo_isParted), .ref (aMo 25), .ref (aMo 26), .ref (aMo 27), .ref (aMo 28), .ref (aMo 29), .int (zI mo_maybes), .int (zI mo_days), .int (zI mo_over2), .int (zI mo_longer), .ref (aMo 34)])), ((aMo 10), .inl (ca 0, 2, .inl (zA mo_trips))), ((aMo 11), .inl (ca 0, 40, .inl (zA mo_tripFrom))), ((aMo 12), .inl (ca 0, 40, .inl (zA mo_tripTo)))] 36 [] [] := by
    intro mo_trips mo_tripFrom mo_tripTo hf
    unfold fX11_trip_36 at hf
    refine g_iconst (pc := 36) C dX11_trip_36 ?_
    cases hf
    exact g_zret (pc := 37) C E (by decide) (fun _ => 0) [0, 1, 2, 3] (by decide) rfl rfl (Nat.le_refl _) (Nat.le_refl _) dX11_trip_37
  have H44 : ∀ (mo_trips : Nat → Int) (mo_tripFrom : Nat → Int) (mo_tripTo : Nat → Int) (n44 : Nat) (v4 : Int), zlp (fX11_trip_44 v1 v2 v3 mo_trips mo_tripFrom mo_tripTo) n44 v4 = some (r_o, mo_trips_o, mo_tripFrom_o, mo_tripTo_o) → Zd D Γ 0 0 [((aMo 0), .inr (11, [.ref (aMo 1), .int (zI mo_taped), .ref (aMo 3), .ref (aMo 4), .ref (aMo 5), .ref (aMo 6), .ref (aMo 7), .ref (aMo 8), .ref (aMo 9), .ref (aMo 10), .ref (aMo 11), .ref (aMo 12), .ref (aMo 13), .ref (aMo 14), .ref (aMo 15), .ref (aMo 16), .int (zI mo_size), .int (zI mo_runs), .ref (aMo 19), .ref (aMo 20), .ref (aMo 21), .int (zI mo_found), .int (zI mo_counted), .int (zI mo_isParted), .ref (aMo 25), .ref (aMo 26), .ref (aMo 27), .ref (aMo 28), .ref (aMo 29), .int (zI mo_maybes), .int (zI mo_days), .int (zI mo_over2), .int (zI mo_longer), .ref (aMo 34)])), ((aMo 10), .inl (ca 0, 2, .inl (zA mo_trips))), ((aMo 11), .inl (ca 0, 40, .inl (zA mo_tripFrom))), ((aMo 12), .inl (ca 0, 40, .inl (zA mo_tripTo)))] 44 [(0, .ref (aMo 0)), (1, .int (zI v1)), (2, .int (zI v2)), (3, .int (zI v3)), (4, .int (zI v4))] [] := by
    intro mo_trips mo_tripFrom mo_tripTo
    intro n44
    induction n44 with
    | zero =>
      intro v4 hf
      exact zno hf
    | succ n44 ih44 =>
      have H84 : ∀ (v4 : Int) (mo_trips : Nat → Int) (mo_tripFrom : Nat → Int) (mo_tripTo : Nat → Int), fX11_trip_84 (zlp (fX11_trip_44 v1 v2 v3 mo_trips mo_tripFrom mo_tripTo) n44) v4 = some (r_o, mo_trips_o, mo_tripFrom_o, mo_tripTo_o) → Zd D Γ 0 0 [((aMo 0), .inr (11, [.ref (aMo 1), .int (zI mo_taped), .ref (aMo 3), .ref (aMo 4), .ref (aMo 5), .ref (aMo 6), .ref (aMo 7), .ref (aMo 8), .ref (aMo 9), .ref (aMo 10), .ref (aMo 11), .ref (aMo 12), .ref (aMo 13), .ref (aMo 14), .ref (aMo 15), .ref (aMo 16), .int (zI mo_size), .int (zI mo_runs), .ref (aMo 19), .ref (aMo 20), .ref (aMo 21), .int (zI mo_found), .int (zI mo_counted), .int (zI mo_isParted), .ref (aMo 25), .ref (aMo 26), .ref (aMo 27), .ref (aMo 28), .ref (aMo 29), .int (zI mo_maybes), .int (zI mo_days), .int (zI mo_over2), .int (zI mo_longer), .ref (aMo 34)])), ((aMo 10), .inl (ca 0, 2, .inl (zA mo_trips))), ((aMo 11), .inl (ca 0, 40, .inl (zA mo_tripFrom))), ((aMo 12), .inl (ca 0, 40, .inl (zA mo_tripTo)))] 84 [(0, .ref (aMo 0)), (1, .int (zI v1)), (2, .int (zI v2)), (3, .int (zI v3)), (4, .int (zI v4))] [] := by
        intro v4 mo_trips mo_tripFrom mo_tripTo hf
        unfold fX11_trip_84 at hf
        refine g_iinc (pc := 84) C 4 (lv' := [(4, .int (zI (v4 + 1))), (0, .ref (aMo 0)), (1, .int (zI v1)), (2, .int (zI v2)), (3, .int (zI v3))]) dX11_trip_84 rfl (Nat.le_of_ble_eq_true rfl) rfl ?_
        refine g_goto (pc := 87) C (tgt := 44) dX11_trip_87 (by decide) ?_
        refine g_sub [0, 1, 2, 3] [1, 2, 3, 4, 0] (by decide) rfl rfl rfl ?_
        exact ih44 _ hf
      intro v4 hf
      rw [zlp_s] at hf
      unfold fX11_trip_44 at hf
      refine g_iload (pc := 44) C 4 dX11_trip_44 rfl ?_
      refine g_bipush (pc := 46) C dX11_trip_46 (by decide) ?_
      refine g_iload_n (pc := 48) C 1 dX11_trip_48 rfl rfl ?_
      refine g_imul (pc := 49) C dX11_trip_49 ?_
      refine g_aload_n (pc := 50) C 0 dX11_trip_50 rfl rfl ?_
      refine g_get (pc := 51) C zf_X11_35 0 rfl rfl dX11_trip_51 ?_
      refine g_iload_n (pc := 54) C 1 dX11_trip_54 rfl rfl ?_
      refine g_iald (pc := 55) C (N := 2) 1 rfl rfl (Nat.le_of_ble_eq_true rfl) dX11_trip_55 hf (fun hf => ?_)
      refine g_iadd (pc := 56) C dX11_trip_56 ?_
      refine g_icmp_ge (pc := 57) C (tgt := 90) dX11_trip_57 (by decide) hf (fun hf => ?_) (fun hf => ?_)
      · refine g_aload_n (pc := 90) C 0 dX11_trip_90 rfl rfl ?_
        refine g_get (pc := 91) C zf_X11_38 0 rfl rfl dX11_trip_91 ?_
        refine g_bipush (pc := 94) C dX11_trip_94 (by decide) ?_
        refine g_iload_n (pc := 96) C 1 dX11_trip_96 rfl rfl ?_
        refine g_imul (pc := 97) C dX11_trip_97 ?_
        refine g_aload_n (pc := 98) C 0 dX11_trip_98 rfl rfl ?_
        refine g_get (pc := 99) C zf_X11_35 0 rfl rfl dX11_trip_99 ?_
        refine g_iload_n (pc := 102) C 1 dX11_trip_102 rfl rfl ?_
        refine g_iald (pc := 103) C (N := 2) 1 rfl rfl (Nat.le_of_ble_eq_true rfl) dX11_trip_103 hf (fun hf => ?_)
        refine g_iadd (pc := 104) C dX11_trip_104 ?_
        refine g_iload_n (pc := 105) C 2 dX11_trip_105 rfl rfl ?_
        refine g_iast (pc := 106) C (N := 40) (ws' := [((aMo 0), .inr (11, [.ref (aMo 1), .int (zI mo_taped), .ref (aMo 3), .ref (aMo 4), .ref (aMo 5), .ref (aMo 6), .ref (aMo 7), .ref (aMo 8), .ref (aMo 9), .ref (aMo 10), .ref (aMo 11), .ref (aMo 12), .ref (aMo 13), .ref (aMo 14), .ref (aMo 15), .ref (aMo 16), .int (zI mo_size), .int (zI mo_runs), .ref (aMo 19), .ref (aMo 20), .ref (aMo 21), .int (zI mo_found), .int (zI mo_counted), .int (zI mo_isParted), .ref (aMo 25), .ref (aMo 26), .ref (aMo 27), .ref (aMo 28), .ref (aMo 29), .int (zI mo_maybes), .int (zI mo_days), .int (zI mo_over2), .int (zI mo_longer), .ref (aMo 34)])), ((aMo 10), .inl (ca 0, 2, .inl (zA mo_trips))), ((aMo 11), .inl (ca 0, 40, .inl (zA (zU mo_tripFrom ((20 * v1) + (mo_trips v1.toNat)).toNat v2)))), ((aMo 12), .inl (ca 0, 40, .inl (zA mo_tripTo)))]) 2 rfl rfl (Nat.le_of_ble_eq_true rfl) rfl dX11_trip_106 hf (fun hf => ?_)
        refine g_aload_n (pc := 107) C 0 dX11_trip_107 rfl rfl ?_
        refine g_get (pc := 108) C zf_X11_41 0 rfl rfl dX11_trip_108 ?_
        refine g_bipush (pc := 111) C dX11_trip_111 (by decide) ?_
        refine g_iload_n (pc := 113) C 1 dX11_trip_113 rfl rfl ?_
        refine g_imul (pc := 114) C dX11_trip_114 ?_
        refine g_aload_n (pc := 115) C 0 dX11_trip_115 rfl rfl ?_
        refine g_get (pc := 116) C zf_X11_35 0 rfl rfl dX11_trip_116 ?_
        refine g_iload_n (pc := 119) C 1 dX11_trip_119 rfl rfl ?_
        refine g_iald (pc := 120) C (N := 2) 1 rfl rfl (Nat.le_of_ble_eq_true rfl) dX11_trip_120 hf (fun hf => ?_)
        refine g_iadd (pc := 121) C dX11_trip_121 ?_
        refine g_iload_n (pc := 122) C 3 dX11_trip_122 rfl rfl ?_
        refine g_iast (pc := 123) C (N := 40) (ws' := [((aMo 0), .inr (11, [.ref (aMo 1), .int (zI mo_taped), .ref (aMo 3), .ref (aMo 4), .ref (aMo 5), .ref (aMo 6), .ref (aMo 7), .ref (aMo 8), .ref (aMo 9), .ref (aMo 10), .ref (aMo 11), .ref (aMo 12), .ref (aMo 13), .ref (aMo 14), .ref (aMo 15), .ref (aMo 16), .int (zI mo_size), .int (zI mo_runs), .ref (aMo 19), .ref (aMo 20), .ref (aMo 21), .int (zI mo_found), .int (zI mo_counted), .int (zI mo_isParted), .ref (aMo 25), .ref (aMo 26), .ref (aMo 27), .ref (aMo 28), .ref (aMo 29), .int (zI mo_maybes), .int (zI mo_days), .int (zI mo_over2), .int (zI mo_longer), .ref (aMo 34)])), ((aMo 10), .inl (ca 0, 2, .inl (zA mo_trips))), ((aMo 11), .inl (ca 0, 40, .inl (zA (zU mo_tripFrom ((20 * v1) + (mo_trips v1.toNat)).toNat v2)))), ((aMo 12), .inl (ca 0, 40, .inl (zA (zU mo_tripTo ((20 * v1) + (mo_trips v1.toNat)).toNat v3))))]) 3 rfl rfl (Nat.le_of_ble_eq_true rfl) rfl dX11_trip_123 hf (fun hf => ?_)
        refine g_aload_n (pc := 124) C 0 dX11_trip_124 rfl rfl ?_
        refine g_get (pc := 125) C zf_X11_35 0 rfl rfl dX11_trip_125 ?_
        refine g_iload_n (pc := 128) C 1 dX11_trip_128 rfl rfl ?_
        refine g_aload_n (pc := 129) C 0 dX11_trip_129 rfl rfl ?_
        refine g_get (pc := 130) C zf_X11_35 0 rfl rfl dX11_trip_130 ?_
        refine g_iload_n (pc := 133) C 1 dX11_trip_133 rfl rfl ?_
        refine g_iald (pc := 134) C (N := 2) 1 rfl rfl (Nat.le_of_ble_eq_true rfl) dX11_trip_134 hf (fun hf => ?_)
        refine g_iconst (pc := 135) C dX11_trip_135 ?_
        refine g_iadd (pc := 136) C dX11_trip_136 ?_
        refine g_iast (pc := 137) C (N := 2) (ws' := [((aMo 0), .inr (11, [.ref (aMo 1), .int (zI mo_taped), .ref (aMo 3), .ref (aMo 4), .ref (aMo 5), .ref (aMo 6), .ref (aMo 7), .ref (aMo 8), .ref (aMo 9), .ref (aMo 10), .ref (aMo 11), .ref (aMo 12), .ref (aMo 13), .ref (aMo 14), .ref (aMo 15), .ref (aMo 16), .int (zI mo_size), .int (zI mo_runs), .ref (aMo 19), .ref (aMo 20), .ref (aMo 21), .int (zI mo_found), .int (zI mo_counted), .int (zI mo_isParted), .ref (aMo 25), .ref (aMo 26), .ref (aMo 27), .ref (aMo 28), .ref (aMo 29), .int (zI mo_maybes), .int (zI mo_days), .int (zI mo_over2), .int (zI mo_longer), .ref (aMo 34)])), ((aMo 10), .inl (ca 0, 2, .inl (zA (zU mo_trips v1.toNat ((mo_trips v1.toNat) + 1))))), ((aMo 11), .inl (ca 0, 40, .inl (zA (zU mo_tripFrom ((20 * v1) + (mo_trips v1.toNat)).toNat v2)))), ((aMo 12), .inl (ca 0, 40, .inl (zA (zU mo_tripTo ((20 * v1) + (mo_trips v1.toNat)).toNat v3))))]) 1 rfl rfl (Nat.le_of_ble_eq_true rfl) rfl dX11_trip_137 hf (fun hf => ?_)
        refine g_iconst (pc := 138) C dX11_trip_138 ?_
        cases hf
        exact g_zret (pc := 139) C E (by decide) (fun _ => 0) [0, 1, 2, 3] (by decide) rfl rfl (Nat.le_refl _) (Nat.le_refl _) dX11_trip_139
      · refine g_iload_n (pc := 60) C 2 dX11_trip_60 rfl rfl ?_
        refine g_aload_n (pc := 61) C 0 dX11_trip_61 rfl rfl ?_
        refine g_get (pc := 62) C zf_X11_41 0 rfl rfl dX11_trip_62 ?_
        refine g_iload (pc := 65) C 4 dX11_trip_65 rfl ?_
        refine g_iald (pc := 67) C (N := 40) 3 rfl rfl (Nat.le_of_ble_eq_true rfl) dX11_trip_67 hf (fun hf => ?_)
        refine g_icmp_ge (pc := 68) C (tgt := 84) dX11_trip_68 (by decide) hf (fun hf => ?_) (fun hf => ?_)
        · exact H84 _ _ _ _ hf
        · refine g_aload_n (pc := 71) C 0 dX11_trip_71 rfl rfl ?_
          refine g_get (pc := 72) C zf_X11_38 0 rfl rfl dX11_trip_72 ?_
          refine g_iload (pc := 75) C 4 dX11_trip_75 rfl ?_
          refine g_iald (pc := 77) C (N := 40) 2 rfl rfl (Nat.le_of_ble_eq_true rfl) dX11_trip_77 hf (fun hf => ?_)
          refine g_iload_n (pc := 78) C 3 dX11_trip_78 rfl rfl ?_
          refine g_icmp_ge (pc := 79) C (tgt := 84) dX11_trip_79 (by decide) hf (fun hf => ?_) (fun hf => ?_)
          · exact H84 _ _ _ _ hf
          · refine g_iconst (pc := 82) C dX11_trip_82 ?_
            cases hf
            exact g_zret (pc := 83) C E (by decide) (fun _ => 0) [0, 1, 2, 3] (by decide) rfl rfl (Nat.le_refl _) (Nat.le_refl _) dX11_trip_83
  unfold fX11_trip at hf
  refine g_iload_n (pc := 0) C 1 dX11_trip_0 rfl rfl ?_
  refine g_if_lt (pc := 1) C (tgt := 36) dX11_trip_1 (by decide) hf (fun hf => ?_) (fun hf => ?_)
  · refine g_sub [0, 1, 2, 3] [] (by decide) rfl rfl rfl ?_
    exact H36 _ _ _ hf
  · refine g_iload_n (pc := 4) C 1 dX11_trip_4 rfl rfl ?_
    refine g_iconst (pc := 5) C dX11_trip_5 ?_
    refine g_icmp_gtr (pc := 6) C (tgt := 36) dX11_trip_6 (by decide) (by decide) hf (fun hf => ?_) (fun hf => ?_)
    · refine g_sub [0, 1, 2, 3] [] (by decide) rfl rfl rfl ?_
      exact H36 _ _ _ hf
    · refine g_iload_n (pc := 9) C 2 dX11_trip_9 rfl rfl ?_
      refine g_if_lt (pc := 10) C (tgt := 36) dX11_trip_10 (by decide) hf (fun hf => ?_) (fun hf => ?_)
      · refine g_sub [0, 1, 2, 3] [] (by decide) rfl rfl rfl ?_
        exact H36 _ _ _ hf
      · refine g_iload_n (pc := 13) C 3 dX11_trip_13 rfl rfl ?_
        refine g_sipush (pc := 14) C dX11_trip_14 (by decide) ?_
        refine g_icmp_gtr (pc := 17) C (tgt := 36) dX11_trip_17 (by decide) (by decide) hf (fun hf => ?_) (fun hf => ?_)
        · refine g_sub [0, 1, 2, 3] [] (by decide) rfl rfl rfl ?_
          exact H36 _ _ _ hf
        · refine g_iload_n (pc := 20) C 2 dX11_trip_20 rfl rfl ?_
          refine g_iload_n (pc := 21) C 3 dX11_trip_21 rfl rfl ?_
          refine g_icmp_ge (pc := 22) C (tgt := 36) dX11_trip_22 (by decide) hf (fun hf => ?_) (fun hf => ?_)
          · refine g_sub [0, 1, 2, 3] [] (by decide) rfl rfl rfl ?_
            exact H36 _ _ _ hf
          · refine g_aload_n (pc := 25) C 0 dX11_trip_25 rfl rfl ?_
            refine g_get (pc := 26) C zf_X11_35 0 rfl rfl dX11_trip_26 ?_
            refine g_iload_n (pc := 29) C 1 dX11_trip_29 rfl rfl ?_
            refine g_iald (pc := 30) C (N := 2) 1 rfl rfl (Nat.le_of_ble_eq_true rfl) dX11_trip_30 hf (fun hf => ?_)
            refine g_bipush (pc := 31) C dX11_trip_31 (by decide) ?_
            refine g_icmp_ner (pc := 33) C (tgt := 38) dX11_trip_33 (by decide) (by decide) hf (fun hf => ?_) (fun hf => ?_)
            · refine g_bipush (pc := 38) C dX11_trip_38 (by decide) ?_
              refine g_iload_n (pc := 40) C 1 dX11_trip_40 rfl rfl ?_
              refine g_imul (pc := 41) C dX11_trip_41 ?_
              refine g_istore (pc := 42) C (lv' := [(4, .int (zI (20 * v1))), (0, .ref (aMo 0)), (1, .int (zI v1)), (2, .int (zI v2)), (3, .int (zI v3))]) dX11_trip_42 (Nat.le_of_ble_eq_true rfl) rfl ?_
              refine g_sub [0, 1, 2, 3] [1, 2, 3, 4, 0] (by decide) rfl rfl rfl ?_
              exact H44 _ _ _ _ _ hf
            · refine g_sub [0, 1, 2, 3] [] (by decide) rfl rfl rfl ?_
              exact H36 _ _ _ hf
set_option maxRecDepth 100000 in
theorem kX11_weight (l : Launch) (D : va_G) (ca : Nat → ClassId) (aMo : Nat → Nat) (mo_taped : Int) (mo_rules : Nat → Int) (mo_acts : Nat → Int) (mo_kindOf : Nat → Int) (mo_lengthOf : Nat → Int) (mo_laid : Nat → Int) (mo_driven : Nat → Int) (mo_runFrom : Nat → Int) (mo_runTo : Nat → Int) (mo_size : Int) (mo_runs : Int) (mo_found : Int) (mo_counted : Int) (mo_isParted : Int) (mo_maybe : Nat → Int) (mo_dayFrom : Nat → Int) (mo_dayTo : Nat → Int) (mo_dayRun : Nat → Int) (mo_isLonger : Nat → Int) (mo_maybes : Int) (mo_days : Int) (mo_over2 : Int) (mo_longer : Int) (v1 : Int) (v2 : Int) (r_o : Int) (mo_laid_o : Nat → Int) (mo_driven_o : Nat → Int) (mo_runFrom_o : Nat → Int) (mo_runTo_o : Nat → Int) (mo_size_o : Int) (mo_runs_o : Int) (mo_maybe_o : Nat → Int) (mo_dayFrom_o : Nat → Int) (mo_dayTo_o : Nat → Int) (mo_dayRun_o : Nat → Int) (mo_isLonger_o : Nat → Int) (mo_maybes_o : Int) (mo_days_o : Int) (mo_over2_o : Int) (mo_longer_o : Int)
    (hf : fX11_weight v1 v2 mo_rules mo_acts mo_kindOf mo_lengthOf mo_laid mo_driven mo_runFrom mo_runTo mo_size mo_runs mo_maybe mo_dayFrom mo_dayTo mo_dayRun mo_isLonger mo_maybes mo_days mo_over2 mo_longer = some (r_o, mo_laid_o, mo_driven_o, mo_runFrom_o, mo_runTo_o, mo_size_o, mo_runs_o, mo_maybe_o, mo_dayFrom_o, mo_dayTo_o, mo_dayRun_o, mo_isLonger_o, mo_maybes_o, mo_days_o, mo_over2_o, mo_longer_o)) : Zc l D ca yX11_weight cX11_weight 3 (some .int) { frames := 5, cells := 0, slots := 0, locals := 119 } [.ref (aMo 0), .int (zI v1), .int (zI v2)] [((aMo 0), .inr (11, [.ref (aMo 1), .int (zI mo_taped), .ref (aMo 3), .ref (aMo 4), .ref (aMo 5), .ref (aMo 6), .ref (aMo 7), .ref (aMo 8), .ref (aMo 9), .ref (aMo 10), .ref (aMo 11), .ref (aMo 12), .ref (aMo 13), .ref (aMo 14), .ref (aMo 15), .ref (aMo 16), .int (zI mo_size), .int (zI mo_runs), .ref (aMo 19), .ref (aMo 20), .ref (aMo 21), .int (zI mo_found), .int (zI mo_counted), .int (zI mo_isParted), .ref (aMo 25), .ref (aMo 26), .ref (aMo 27), .ref (aMo 28), .ref (aMo 29), .int (zI mo_maybes), .int (zI mo_days), .int (zI mo_over2), .int (zI mo_longer), .ref (aMo 34)])), ((aMo 3), .inl (ca 0, 11, .inl (zA mo_rules))), ((aMo 5), .inl (ca 0, 4, .inl (zA mo_acts))), ((aMo 7), .inl (ca 0, 240, .inl (zA mo_kindOf))), ((aMo 8), .inl (ca 0, 240, .inl (zA mo_lengthOf))), ((aMo 13), .inl (ca 0, 20160, .inl (zA mo_laid))), ((aMo 14), .inl (ca 0, 20161, .inl (zA mo_driven))), ((aMo 15), .inl (ca 0, 60, .inl (zA mo_runFrom))), ((aMo 16), .inl (ca 0, 60, .inl (zA mo_runTo))), ((aMo 25), .inl (ca 0, 12, .inl (zA mo_maybe))), ((aMo 26), .inl (ca 0, 62, .inl (zA mo_dayFrom))), ((aMo 27), .inl (ca 0, 62, .inl (zA mo_dayTo))), ((aMo 28), .inl (ca 0, 62, .inl (zA mo_dayRun))), ((aMo 29), .inl (ca 3, 62, .inl (zA mo_isLonger)))] (some (.int (zI r_o))) (fun _ => [((aMo 0), .inr (11, [.ref (aMo 1), .int (zI mo_taped), .ref (aMo 3), .ref (aMo 4), .ref (aMo 5), .ref (aMo 6), .ref (aMo 7), .ref (aMo 8), .ref (aMo 9), .ref (aMo 10), .ref (aMo 11), .ref (aMo 12), .ref (aMo 13), .ref (aMo 14), .ref (aMo 15), .ref (aMo 16), .int (zI mo_size_o), .int (zI mo_runs_o), .ref (aMo 19), .ref (aMo 20), .ref (aMo 21), .int (zI mo_found), .int (zI mo_counted), .int (zI mo_isParted), .ref (aMo 25), .ref (aMo 26), .ref (aMo 27), .ref (aMo 28), .ref (aMo 29), .int (zI mo_maybes_o), .int (zI mo_days_o), .int (zI mo_over2_o), .int (zI mo_longer_o), .ref (aMo 34)])), ((aMo 3), .inl (ca 0, 11, .inl (zA mo_rules))), ((aMo 5), .inl (ca 0, 4, .inl (zA mo_acts))), ((aMo 7), .inl (ca 0, 240, .inl (zA mo_kindOf))), ((aMo 8), .inl (ca 0, 240, .inl (zA mo_lengthOf))), ((aMo 13), .inl (ca 0, 20160, .inl (zA mo_laid_o))), ((aMo 14), .inl (ca 0, 20161, .inl (zA mo_driven_o))), ((aMo 15), .inl (ca 0, 60, .inl (zA mo_runFrom_o))), ((aMo 16), .inl (ca 0, 60, .inl (zA mo_runTo_o))), ((aMo 25), .inl (ca 0, 12, .inl (zA mo_maybe_o))), ((aMo 26), .inl (ca 0, 62, .inl (zA mo_dayFrom_o))), ((aMo 27), .inl (ca 0, 62, .inl (zA mo_dayTo_o))), ((aMo 28), .inl (ca 0, 62, .inl (zA mo_dayRun_o))), ((aMo 29), .inl (ca 3, 62, .inl (zA mo_isLonger_o)))]) := by
  refine ctr_of (lv := [(0, .ref (aMo 0)), (1, .int (zI v1)), (2, .int (zI v2))]) (by decide +kernel) (Nat.le_of_ble_eq_true rfl) rfl (fun Γ hl0 C E hnm => ?_)
  unfold fX11_weight at hf
  refine g_iload_n (pc := 0) C 1 dX11_weight_0 rfl rfl ?_
  obtain ⟨r_1, hc_1, hf⟩ := Option.bind_eq_some_iff.mp hf
  refine g_callS (pc := 1) C hl0 (wr := [((aMo 0), .inr (11, [.ref (aMo 1), .int (zI mo_taped), .ref (aMo 3), .ref (aMo 4), .ref (aMo 5), .ref (aMo 6), .ref (aMo 7), .ref (aMo 8), .ref (aMo 9), .ref (aMo 10), .ref (aMo 11), .ref (aMo 12), .ref (aMo 13), .ref (aMo 14), .ref (aMo 15), .ref (aMo 16), .int (zI mo_size), .int (zI mo_runs), .ref (aMo 19), .ref (aMo 20), .ref (aMo 21), .int (zI mo_found), .int (zI mo_counted), .int (zI mo_isParted), .ref (aMo 25), .ref (aMo 26), .ref (aMo 27), .ref (aMo 28), .ref (aMo 29), .int (zI mo_maybes), .int (zI mo_days), .int (zI mo_over2), .int (zI mo_longer), .ref (aMo 34)])), ((aMo 3), .inl (ca 0, 11, .inl (zA mo_rules))), ((aMo 5), .inl (ca 0, 4, .inl (zA mo_acts))), ((aMo 7), .inl (ca 0, 240, .inl (zA mo_kindOf))), ((aMo 8), .inl (ca 0, 240, .inl (zA mo_lengthOf))), ((aMo 13), .inl (ca 0, 20160, .inl (zA mo_laid))), ((aMo 14), .inl (ca 0, 20161, .inl (zA mo_driven))), ((aMo 15), .inl (ca 0, 60, .inl (zA mo_runFrom))), ((aMo 16), .inl (ca 0, 60, .inl (zA mo_runTo))), ((aMo 25), .inl (ca 0, 12, .inl (zA mo_maybe))), ((aMo 26), .inl (ca 0, 62, .inl (zA mo_dayFrom))), ((aMo 27), .inl (ca 0, 62, .inl (zA mo_dayTo))), ((aMo 28), .inl (ca 0, 62, .inl (zA mo_dayRun))), ((aMo 29), .inl (ca 3, 62, .inl (zA mo_isLonger)))]) (k' := 0) (n' := 0) (ws' := fun _ => [((aMo 0), .inr (11, [.ref (aMo 1), .int (zI mo_taped), .ref (aMo 3), .ref (aMo 4), .ref (aMo 5), .ref (aMo 6), .ref (aMo 7), .ref (aMo 8), .ref (aMo 9), .ref (aMo 10), .ref (aMo 11), .ref (aMo 12), .ref (aMo 13), .ref (aMo 14), .ref (aMo 15), .ref (aMo 16), .int (zI mo_size), .int (zI mo_runs), .ref (aMo 19), .ref (aMo 20), .ref (aMo 21), .int (zI mo_found), .int (zI mo_counted), .int (zI mo_isParted), .ref (aMo 25), .ref (aMo 26), .ref (aMo 27), .ref (aMo 28), .ref (aMo 29), .int (zI mo_maybes), .int (zI mo_days), .int (zI mo_over2), .int (zI mo_longer), .ref (aMo 34)])), ((aMo 3), .inl (ca 0, 11, .inl (zA mo_rules))), ((aMo 5), .inl (ca 0, 4, .inl (zA mo_acts))), ((aMo 7), .inl (ca 0, 240, .inl (zA mo_kindOf))), ((aMo 8), .inl (ca 0, 240, .inl (zA mo_lengthOf))), ((aMo 13), .inl (ca 0, 20160, .inl (zA mo_laid))), ((aMo 14), .inl (ca 0, 20161, .inl (zA mo_driven))), ((aMo 15), .inl (ca 0, 60, .inl (zA mo_runFrom))), ((aMo 16), .inl (ca 0, 60, .inl (zA mo_runTo))), ((aMo 25), .inl (ca 0, 12, .inl (zA mo_maybe))), ((aMo 26), .inl (ca 0, 62, .inl (zA mo_dayFrom))), ((aMo 27), .inl (ca 0, 62, .inl (zA mo_dayTo))), ((aMo 28), .inl (ca 0, 62, .inl (zA mo_dayRun))), ((aMo 29), .inl (ca 3, 62, .inl (zA mo_isLonger)))]) (st' := [.int (zI r_1)]) (kX11_isCard l D ca v1 r_1 hc_1) wml_RX11_110 wst_X11_isCard win_RX11 wco_X11_isCard (nA := 1) rfl (by decide +kernel)  ⟨(Nat.le_of_ble_eq_true rfl), (Nat.le_of_ble_eq_true rfl)⟩ (Nat.le_refl _) (Nat.le_refl _) rfl (by decide) dX11_weight_1 [] [0, 1, 2, 3, 4, 5, 6, 7, 8, 9, 10, 11, 12, 13] rfl rfl rfl (by decide) (by decide) (by decide) rfl rfl (fun _ => rfl) rfl (fun _ => ?_)
  refine g_if_ne (pc := 4) C (tgt := 9) dX11_weight_4 (by decide) hf (fun hf => ?_) (fun hf => ?_)
  · refine g_aload_n (pc := 9) C 0 dX11_weight_9 rfl rfl ?_
    refine g_iload_n (pc := 10) C 1 dX11_weight_10 rfl rfl ?_
    refine g_iload_n (pc := 11) C 2 dX11_weight_11 rfl rfl ?_
    obtain ⟨⟨mo_laid_12, mo_driven_12, mo_runFrom_12, mo_runTo_12, mo_size_12, mo_runs_12⟩, hc_12, hf⟩ := Option.bind_eq_some_iff.mp hf
    dsimp only at hf
    refine g_callV (pc := 12) C hl0 (wr := [((aMo 3), .inl (ca 0, 11, .inl (zA mo_rules))), ((aMo 25), .inl (ca 0, 12, .inl (zA mo_maybe))), ((aMo 26), .inl (ca 0, 62, .inl (zA mo_dayFrom))), ((aMo 27), .inl (ca 0, 62, .inl (zA mo_dayTo))), ((aMo 28), .inl (ca 0, 62, .inl (zA mo_dayRun))), ((aMo 29), .inl (ca 3, 62, .inl (zA mo_isLonger)))]) (k' := 0) (n' := 0) (ws' := fun _ => [((aMo 3), .inl (ca 0, 11, .inl (zA mo_rules))), ((aMo 25), .inl (ca 0, 12, .inl (zA mo_maybe))), ((aMo 26), .inl (ca 0, 62, .inl (zA mo_dayFrom))), ((aMo 27), .inl (ca 0, 62, .inl (zA mo_dayTo))), ((aMo 28), .inl (ca 0, 62, .inl (zA mo_dayRun))), ((aMo 29), .inl (ca 3, 62, .inl (zA mo_isLonger))), ((aMo 0), .inr (11, [.ref (aMo 1), .int (zI mo_taped), .ref (aMo 3), .ref (aMo 4), .ref (aMo 5), .ref (aMo 6), .ref (aMo 7), .ref (aMo 8), .ref (aMo 9), .ref (aMo 10), .ref (aMo 11), .ref (aMo 12), .ref (aMo 13), .ref (aMo 14), .ref (aMo 15), .ref (aMo 16), .int (zI mo_size_12), .int (zI mo_runs_12), .ref (aMo 19), .ref (aMo 20), .ref (aMo 21), .int (zI mo_found), .int (zI mo_counted), .int (zI mo_isParted), .ref (aMo 25), .ref (aMo 26), .ref (aMo 27), .ref (aMo 28), .ref (aMo 29), .int (zI mo_maybes), .int (zI mo_days), .int (zI mo_over2), .int (zI mo_longer), .ref (aMo 34)])), ((aMo 5), .inl (ca 0, 4, .inl (zA mo_acts))), ((aMo 7), .inl (ca 0, 240, .inl (zA mo_kindOf))), ((aMo 8), .inl (ca 0, 240, .inl (zA mo_lengthOf))), ((aMo 13), .inl (ca 0, 20160, .inl (zA mo_laid_12))), ((aMo 14), .inl (ca 0, 20161, .inl (zA mo_driven_12))), ((aMo 15), .inl (ca 0, 60, .inl (zA mo_runFrom_12))), ((aMo 16), .inl (ca 0, 60, .inl (zA mo_runTo_12)))]) (st' := []) (kX11_lays l D ca aMo mo_taped mo_acts mo_kindOf mo_lengthOf mo_laid mo_driven mo_runFrom mo_runTo mo_size mo_runs mo_found mo_counted mo_isParted mo_maybes mo_days mo_over2 mo_longer v1 v2 mo_laid_12 mo_driven_12 mo_runFrom_12 mo_runTo_12 mo_size_12 mo_runs_12 hc_12) wml_RX11_198 wim_X11_lays wse_X11_lays win_RX11 wco_X11_lays (nA := 2) rfl (by decide +kernel)  ⟨(Nat.le_of_ble_eq_true rfl), (Nat.le_of_ble_eq_true rfl)⟩ (Nat.le_refl _) (Nat.le_refl _) rfl (by decide) dX11_weight_12 0 11 rfl rfl rfl [0, 2, 3, 4, 5, 6, 7, 8] [1, 9, 10, 11, 12, 13] rfl rfl rfl (by decide) (by decide) (by decide) rfl rfl (fun _ => rfl) rfl (fun _ => ?_)
    refine g_aload_n (pc := 15) C 0 dX11_weight_15 rfl rfl ?_
    obtain ⟨⟨mo_maybe_16, mo_dayFrom_16, mo_dayTo_16, mo_dayRun_16, mo_isLonger_16, mo_maybes_16, mo_days_16, mo_over2_16, mo_longer_16⟩, hc_16, hf⟩ := Option.bind_eq_some_iff.mp hf
    dsimp only at hf
    refine g_callV (pc := 16) C hl0 (wr := [((aMo 5), .inl (ca 0, 4, .inl (zA mo_acts))), ((aMo 7), .inl (ca 0, 240, .inl (zA mo_kindOf))), ((aMo 8), .inl (ca 0, 240, .inl (zA mo_lengthOf))), ((aMo 13), .inl (ca 0, 20160, .inl (zA mo_laid_12)))]) (k' := 0) (n' := 0) (ws' := fun _ => [((aMo 5), .inl (ca 0, 4, .inl (zA mo_acts))), ((aMo 7), .inl (ca 0, 240, .inl (zA mo_kindOf))), ((aMo 8), .inl (ca 0, 240, .inl (zA mo_lengthOf))), ((aMo 13), .inl (ca 0, 20160, .inl (zA mo_laid_12))), ((aMo 0), .inr (11, [.ref (aMo 1), .int (zI mo_taped), .ref (aMo 3), .ref (aMo 4), .ref (aMo 5), .ref (aMo 6), .ref (aMo 7), .ref (aMo 8), .ref (aMo 9), .ref (aMo 10), .ref (aMo 11), .ref (aMo 12), .ref (aMo 13), .ref (aMo 14), .ref (aMo 15), .ref (aMo 16), .int (zI mo_size_12), .int (zI mo_runs_12), .ref (aMo 19), .ref (aMo 20), .ref (aMo 21), .int (zI mo_found), .int (zI mo_counted), .int (zI mo_isParted), .ref (aMo 25), .ref (aMo 26), .ref (aMo 27), .ref (aMo 28), .ref (aMo 29), .int (zI mo_maybes_16), .int (zI mo_days_16), .int (zI mo_over2_16), .int (zI mo_longer_16), .ref (aMo 34)])), ((aMo 3), .inl (ca 0, 11, .inl (zA mo_rules))), ((aMo 14), .inl (ca 0, 20161, .inl (zA mo_driven_12))), ((aMo 15), .inl (ca 0, 60, .inl (zA mo_runFrom_12))), ((aMo 16), .inl (ca 0, 60, .inl (zA mo_runTo_12))), ((aMo 25), .inl (ca 0, 12, .inl (zA mo_maybe_16))), ((aMo 26), .inl (ca 0, 62, .inl (zA mo_dayFrom_16))), ((aMo 27), .inl (ca 0, 62, .inl (zA mo_dayTo_16))), ((aMo 28), .inl (ca 0, 62, .inl (zA mo_dayRun_16))), ((aMo 29), .inl (ca 3, 62, .inl (zA mo_isLonger_16)))]) (st' := []) (kX11_chooses l D ca aMo mo_taped mo_rules mo_driven_12 mo_runFrom_12 mo_runTo_12 mo_size_12 mo_runs_12 mo_found mo_counted mo_isParted mo_maybe mo_dayFrom mo_dayTo mo_dayRun mo_isLonger mo_maybes mo_days mo_over2 mo_longer mo_maybe_16 mo_dayFrom_16 mo_dayTo_16 mo_dayRun_16 mo_isLonger_16 mo_maybes_16 mo_days_16 mo_over2_16 mo_longer_16 hc_16) wml_RX11_205 wim_X11_chooses wse_X11_chooses win_RX11 wco_X11_chooses (nA := 0) rfl (by decide +kernel)  ⟨(Nat.le_of_ble_eq_true rfl), (Nat.le_of_ble_eq_true rfl)⟩ (Nat.le_refl _) (Nat.le_refl _) rfl (by decide) dX11_weight_16 6 11 rfl rfl rfl [6, 0, 11, 12, 13, 1, 2, 3, 4, 5] [7, 8, 9, 10] rfl rfl rfl (by decide) (by decide) (by decide) rfl rfl (fun _ => rfl) rfl (fun _ => ?_)
    refine g_aload_n (pc := 19) C 0 dX11_weight_19 rfl rfl ?_
    refine g_get (pc := 20) C zf_X11_177 4 rfl rfl dX11_weight_20 ?_
    cases hf
    exact g_iret (pc := 23) C E (fun _ => 0) [4, 5, 0, 1, 2, 3, 6, 7, 8, 9, 10, 11, 12, 13] (by decide) rfl rfl (Nat.le_refl _) (Nat.le_refl _) dX11_weight_23
  · refine g_iconst (pc := 7) C dX11_weight_7 ?_
    cases hf
    exact g_iret (pc := 8) C E (fun _ => 0) [0, 1, 2, 3, 4, 5, 6, 7, 8, 9, 10, 11, 12, 13] (by decide) rfl rfl (Nat.le_refl _) (Nat.le_refl _) dX11_weight_8
