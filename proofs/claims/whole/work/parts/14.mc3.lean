def oX11_day (ca : Nat → ClassId) (aMo : Nat → Nat) (mo_taped : Int) (mo_rules : Nat → Int) (mo_acts : Nat → Int) (mo_kindOf : Nat → Int) (mo_lengthOf : Nat → Int) (mo_found : Int) (mo_counted : Int) (mo_isParted : Int) (Ro : Int × (Nat → Int) × (Nat → Int) × (Nat → Int) × (Nat → Int) × Int × Int × (Nat → Int) × (Nat → Int) × (Nat → Int) × (Nat → Int) × (Nat → Int) × Int × Int × Int × Int) : (Nat → Nat) → va_W := fun _ => [((aMo 0), .inr (11, [.ref (aMo 1), .int (zI mo_taped), .ref (aMo 3), .ref (aMo 4), .ref (aMo 5), .ref (aMo 6), .ref (aMo 7), .ref (aMo 8), .ref (aMo 9), .ref (aMo 10), .ref (aMo 11), .ref (aMo 12), .ref (aMo 13), .ref (aMo 14), .ref (aMo 15), .ref (aMo 16), .int (zI (Ro.2.2.2.2.2.1)), .int (zI (Ro.2.2.2.2.2.2.1)), .ref (aMo 19), .ref (aMo 20), .ref (aMo 21), .int (zI mo_found), .int (zI mo_counted), .int (zI mo_isParted), .ref (aMo 25), .ref (aMo 26), .ref (aMo 27), .ref (aMo 28), .ref (aMo 29), .int (zI (Ro.2.2.2.2.2.2.2.2.2.2.2.2.1)), .int (zI (Ro.2.2.2.2.2.2.2.2.2.2.2.2.2.1)), .int (zI (Ro.2.2.2.2.2.2.2.2.2.2.2.2.2.2.1)), .int (zI (Ro.2.2.2.2.2.2.2.2.2.2.2.2.2.2.2)), .ref (aMo 34)])), ((aMo 3), .inl (ca 0, 11, .inl (zA mo_rules))), ((aMo 5), .inl (ca 0, 4, .inl (zA mo_acts))), ((aMo 7), .inl (ca 0, 240, .inl (zA mo_kindOf))), ((aMo 8), .inl (ca 0, 240, .inl (zA mo_lengthOf))), ((aMo 13), .inl (ca 0, 20160, .inl (zA (Ro.2.1)))), ((aMo 14), .inl (ca 0, 20161, .inl (zA (Ro.2.2.1)))), ((aMo 15), .inl (ca 0, 60, .inl (zA (Ro.2.2.2.1)))), ((aMo 16), .inl (ca 0, 60, .inl (zA (Ro.2.2.2.2.1)))), ((aMo 25), .inl (ca 0, 12, .inl (zA (Ro.2.2.2.2.2.2.2.1)))), ((aMo 26), .inl (ca 0, 62, .inl (zA (Ro.2.2.2.2.2.2.2.2.1)))), ((aMo 27), .inl (ca 0, 62, .inl (zA (Ro.2.2.2.2.2.2.2.2.2.1)))), ((aMo 28), .inl (ca 0, 62, .inl (zA (Ro.2.2.2.2.2.2.2.2.2.2.1)))), ((aMo 29), .inl (ca 3, 62, .inl (zA (Ro.2.2.2.2.2.2.2.2.2.2.2.1))))]
def oiX11_day (Ro : Int × (Nat → Int) × (Nat → Int) × (Nat → Int) × (Nat → Int) × Int × Int × (Nat → Int) × (Nat → Int) × (Nat → Int) × (Nat → Int) × (Nat → Int) × Int × Int × Int × Int) : Option Value := (some (.int (zI Ro.1)))
set_option maxRecDepth 100000 in
theorem kX11_day (l : Launch) (D : va_G) (ca : Nat → ClassId) (aMo : Nat → Nat) (mo_taped : Int) (mo_rules : Nat → Int) (mo_acts : Nat → Int) (mo_kindOf : Nat → Int) (mo_lengthOf : Nat → Int) (mo_laid : Nat → Int) (mo_driven : Nat → Int) (mo_runFrom : Nat → Int) (mo_runTo : Nat → Int) (mo_size : Int) (mo_runs : Int) (mo_found : Int) (mo_counted : Int) (mo_isParted : Int) (mo_maybe : Nat → Int) (mo_dayFrom : Nat → Int) (mo_dayTo : Nat → Int) (mo_dayRun : Nat → Int) (mo_isLonger : Nat → Int) (mo_maybes : Int) (mo_days : Int) (mo_over2 : Int) (mo_longer : Int) (v1 : Int) (v2 : Int) (v3 : Int) (v4 : Int) (Ro : Int × (Nat → Int) × (Nat → Int) × (Nat → Int) × (Nat → Int) × Int × Int × (Nat → Int) × (Nat → Int) × (Nat → Int) × (Nat → Int) × (Nat → Int) × Int × Int × Int × Int)
    (hf : fX11_day v1 v2 v3 v4 mo_rules mo_acts mo_kindOf mo_lengthOf mo_laid mo_driven mo_runFrom mo_runTo mo_size mo_runs mo_maybe mo_dayFrom mo_dayTo mo_dayRun mo_isLonger mo_maybes mo_days mo_over2 mo_longer = some Ro) : Zc l D ca yX11_day cX11_day 5 (some .int) { frames := 5, cells := 0, slots := 0, locals := 119 } [.ref (aMo 0), .int (zI v1), .int (zI v2), .int (zI v3), .int (zI v4)] [((aMo 0), .inr (11, [.ref (aMo 1), .int (zI mo_taped), .ref (aMo 3), .ref (aMo 4), .ref (aMo 5), .ref (aMo 6), .ref (aMo 7), .ref (aMo 8), .ref (aMo 9), .ref (aMo 10), .ref (aMo 11), .ref (aMo 12), .ref (aMo 13), .ref (aMo 14), .ref (aMo 15), .ref (aMo 16), .int (zI mo_size), .int (zI mo_runs), .ref (aMo 19), .ref (aMo 20), .ref (aMo 21), .int (zI mo_found), .int (zI mo_counted), .int (zI mo_isParted), .ref (aMo 25), .ref (aMo 26), .ref (aMo 27), .ref (aMo 28), .ref (aMo 29), .int (zI mo_maybes), .int (zI mo_days), .int (zI mo_over2), .int (zI mo_longer), .ref (aMo 34)])), ((aMo 3), .inl (ca 0, 11, .inl (zA mo_rules))), ((aMo 5), .inl (ca 0, 4, .inl (zA mo_acts))), ((aMo 7), .inl (ca 0, 240, .inl (zA mo_kindOf))), ((aMo 8), .inl (ca 0, 240, .inl (zA mo_lengthOf))), ((aMo 13), .inl (ca 0, 20160, .inl (zA mo_laid))), ((aMo 14), .inl (ca 0, 20161, .inl (zA mo_driven))), ((aMo 15), .inl (ca 0, 60, .inl (zA mo_runFrom))), ((aMo 16), .inl (ca 0, 60, .inl (zA mo_runTo))), ((aMo 25), .inl (ca 0, 12, .inl (zA mo_maybe))), ((aMo 26), .inl (ca 0, 62, .inl (zA mo_dayFrom))), ((aMo 27), .inl (ca 0, 62, .inl (zA mo_dayTo))), ((aMo 28), .inl (ca 0, 62, .inl (zA mo_dayRun))), ((aMo 29), .inl (ca 3, 62, .inl (zA mo_isLonger)))] (oiX11_day Ro) (oX11_day ca aMo mo_taped mo_rules mo_acts mo_kindOf mo_lengthOf mo_found mo_counted mo_isParted Ro) := by
  refine ctr_of (lv := [(0, .ref (aMo 0)), (1, .int (zI v1)), (2, .int (zI v2)), (3, .int (zI v3)), (4, .int (zI v4))]) (by decide +kernel) (Nat.le_of_ble_eq_true rfl) rfl (fun Γ hl0 C E hnm => ?_)
  have H11 : ∀ (mo_laid : Nat → Int) (mo_driven : Nat → Int) (mo_runFrom : Nat → Int) (mo_runTo : Nat → Int) (mo_size : Int) (mo_runs : Int) (mo_maybe : Nat → Int) (mo_dayFrom : Nat → Int) (mo_dayTo : Nat → Int) (mo_dayRun : Nat → Int) (mo_isLonger : Nat → Int) (mo_maybes : Int) (mo_days : Int) (mo_over2 : Int) (mo_longer : Int), fX11_day_11 mo_laid mo_driven mo_runFrom mo_runTo mo_size mo_runs mo_maybe mo_dayFrom mo_dayTo mo_dayRun mo_isLonger mo_maybes mo_days mo_over2 mo_longer = some Ro → Zd D Γ 0 0 [((aMo 0), .inr (11, [.ref (aMo 1), .int (zI mo_taped), .ref (aMo 3), .ref (aMo 4), .ref (aMo 5), .ref (aMo 6), .ref (aMo 7), .ref (aMo 8), .ref (aMo 9), .ref (aMo 10), .ref (aMo 11), .ref (aMo 12), .ref (aMo 13), .ref (aMo 14), .ref (aMo 15), .ref (aMo 16), .int (zI mo_size), .int (zI mo_runs), .ref (aMo 19), .ref (aMo 20), .ref (aMo 21), .int (zI mo_found), .int (zI mo_counted), .int (zI mo_isParted), .ref (aMo 25), .ref (aMo 26), .ref (aMo 27), .ref (aMo 28), .ref (aMo 29), .int (zI mo_maybes), .int (zI mo_days), .int (zI mo_over2), .int (zI mo_longer), .ref (aMo 34)])), ((aMo 3), .inl (ca 0, 11, .inl (zA mo_rules))), ((aMo 5), .inl (ca 0, 4, .inl (zA mo_acts))), ((aMo 7), .inl (ca 0, 240, .inl (zA mo_kindOf))), ((aMo 8), .inl (ca 0, 240, .inl (zA mo_lengthOf))), ((aMo 13), .inl (ca 0, 20160, .inl (zA mo_laid))), ((aMo 14), .inl (ca 0, 20161, .inl (zA mo_driven))), ((aMo 15), .inl (ca 0, 60, .inl (zA mo_runFrom))), ((aMo 16), .inl (ca 0, 60, .inl (zA mo_runTo))), ((aMo 25), .inl (ca 0, 12, .inl (zA mo_maybe))), ((aMo 26), .inl (ca 0, 62, .inl (zA mo_dayFrom))), ((aMo 27), .inl (ca 0, 62, .inl (zA mo_dayTo))), ((aMo 28), .inl (ca 0, 62, .inl (zA mo_dayRun))), ((aMo 29), .inl (ca 3, 62, .inl (zA mo_isLonger)))] 11 [] [] := by
    intro mo_laid mo_driven mo_runFrom mo_runTo mo_size mo_runs mo_maybe mo_dayFrom mo_dayTo mo_dayRun mo_isLonger mo_maybes mo_days mo_over2 mo_longer hf
    unfold fX11_day_11 at hf
    refine g_iconst (pc := 11) C dX11_day_11 ?_
    exact g_iret (pc := 12) C hf E rfl (fun _ => 0) [0, 1, 2, 3, 4, 5, 6, 7, 8, 9, 10, 11, 12, 13] (by decide) rfl rfl (Nat.le_refl _) (Nat.le_refl _) dX11_day_12
  unfold fX11_day at hf
  refine g_iload_n (pc := 0) C 1 dX11_day_0 rfl rfl ?_
  obtain ⟨r_1, hc_1, hf⟩ := Option.bind_eq_some_iff.mp hf
  refine g_callS (pc := 1) C hl0 (wr := [((aMo 0), .inr (11, [.ref (aMo 1), .int (zI mo_taped), .ref (aMo 3), .ref (aMo 4), .ref (aMo 5), .ref (aMo 6), .ref (aMo 7), .ref (aMo 8), .ref (aMo 9), .ref (aMo 10), .ref (aMo 11), .ref (aMo 12), .ref (aMo 13), .ref (aMo 14), .ref (aMo 15), .ref (aMo 16), .int (zI mo_size), .int (zI mo_runs), .ref (aMo 19), .ref (aMo 20), .ref (aMo 21), .int (zI mo_found), .int (zI mo_counted), .int (zI mo_isParted), .ref (aMo 25), .ref (aMo 26), .ref (aMo 27), .ref (aMo 28), .ref (aMo 29), .int (zI mo_maybes), .int (zI mo_days), .int (zI mo_over2), .int (zI mo_longer), .ref (aMo 34)])), ((aMo 3), .inl (ca 0, 11, .inl (zA mo_rules))), ((aMo 5), .inl (ca 0, 4, .inl (zA mo_acts))), ((aMo 7), .inl (ca 0, 240, .inl (zA mo_kindOf))), ((aMo 8), .inl (ca 0, 240, .inl (zA mo_lengthOf))), ((aMo 13), .inl (ca 0, 20160, .inl (zA mo_laid))), ((aMo 14), .inl (ca 0, 20161, .inl (zA mo_driven))), ((aMo 15), .inl (ca 0, 60, .inl (zA mo_runFrom))), ((aMo 16), .inl (ca 0, 60, .inl (zA mo_runTo))), ((aMo 25), .inl (ca 0, 12, .inl (zA mo_maybe))), ((aMo 26), .inl (ca 0, 62, .inl (zA mo_dayFrom))), ((aMo 27), .inl (ca 0, 62, .inl (zA mo_dayTo))), ((aMo 28), .inl (ca 0, 62, .inl (zA mo_dayRun))), ((aMo 29), .inl (ca 3, 62, .inl (zA mo_isLonger)))]) (k' := 0) (n' := 0) (ws' := fun _ => [((aMo 0), .inr (11, [.ref (aMo 1), .int (zI mo_taped), .ref (aMo 3), .ref (aMo 4), .ref (aMo 5), .ref (aMo 6), .ref (aMo 7), .ref (aMo 8), .ref (aMo 9), .ref (aMo 10), .ref (aMo 11), .ref (aMo 12), .ref (aMo 13), .ref (aMo 14), .ref (aMo 15), .ref (aMo 16), .int (zI mo_size), .int (zI mo_runs), .ref (aMo 19), .ref (aMo 20), .ref (aMo 21), .int (zI mo_found), .int (zI mo_counted), .int (zI mo_isParted), .ref (aMo 25), .ref (aMo 26), .ref (aMo 27), .ref (aMo 28), .ref (aMo 29), .int (zI mo_maybes), .int (zI mo_days), .int (zI mo_over2), .int (zI mo_longer), .ref (aMo 34)])), ((aMo 3), .inl (ca 0, 11, .inl (zA mo_rules))), ((aMo 5), .inl (ca 0, 4, .inl (zA mo_acts))), ((aMo 7), .inl (ca 0, 240, .inl (zA mo_kindOf))), ((aMo 8), .inl (ca 0, 240, .inl (zA mo_lengthOf))), ((aMo 13), .inl (ca 0, 20160, .inl (zA mo_laid))), ((aMo 14), .inl (ca 0, 20161, .inl (zA mo_driven))), ((aMo 15), .inl (ca 0, 60, .inl (zA mo_runFrom))), ((aMo 16), .inl (ca 0, 60, .inl (zA mo_runTo))), ((aMo 25), .inl (ca 0, 12, .inl (zA mo_maybe))), ((aMo 26), .inl (ca 0, 62, .inl (zA mo_dayFrom))), ((aMo 27), .inl (ca 0, 62, .inl (zA mo_dayTo))), ((aMo 28), .inl (ca 0, 62, .inl (zA mo_dayRun))), ((aMo 29), .inl (ca 3, 62, .inl (zA mo_isLonger)))]) (st' := [.int (zI r_1)]) (kX11_isCard l D ca v1 r_1 hc_1) wml_RX11_110 wst_X11_isCard win_RX11 wco_X11_isCard (nA := 1) rfl (by decide +kernel)  ⟨(Nat.le_of_ble_eq_true rfl), (Nat.le_of_ble_eq_true rfl)⟩ (Nat.le_refl _) (Nat.le_refl _) rfl (Nat.le_of_ble_eq_true rfl) dX11_day_1 [] [0, 1, 2, 3, 4, 5, 6, 7, 8, 9, 10, 11, 12, 13] rfl rfl rfl (by decide) (by decide) (by decide) rfl rfl (fun _ => rfl) rfl (fun _ => ?_)
  refine g_if_eq (pc := 4) C (tgt := 11) dX11_day_4 (by decide) hf (fun hf => ?_) (fun hf => ?_)
  · refine g_sub [0, 1, 2, 3, 4, 5, 6, 7, 8, 9, 10, 11, 12, 13] [] (by decide) rfl rfl rfl ?_
    exact H11 _ _ _ _ _ _ _ _ _ _ _ _ _ _ _ hf
  · refine g_iload_n (pc := 7) C 3 dX11_day_7 rfl rfl ?_
    refine g_if_ge (pc := 8) C (tgt := 13) dX11_day_8 (by decide) hf (fun hf => ?_) (fun hf => ?_)
    · refine g_aload_n (pc := 13) C 0 dX11_day_13 rfl rfl ?_
      refine g_iload_n (pc := 14) C 1 dX11_day_14 rfl rfl ?_
      refine g_iload_n (pc := 15) C 2 dX11_day_15 rfl rfl ?_
      obtain ⟨⟨mo_laid_16, mo_driven_16, mo_runFrom_16, mo_runTo_16, mo_size_16, mo_runs_16⟩, hc_16, hf⟩ := Option.bind_eq_some_iff.mp hf
      dsimp only at hf
      refine g_callV (pc := 16) C hl0 (wr := [((aMo 3), .inl (ca 0, 11, .inl (zA mo_rules))), ((aMo 25), .inl (ca 0, 12, .inl (zA mo_maybe))), ((aMo 26), .inl (ca 0, 62, .inl (zA mo_dayFrom))), ((aMo 27), .inl (ca 0, 62, .inl (zA mo_dayTo))), ((aMo 28), .inl (ca 0, 62, .inl (zA mo_dayRun))), ((aMo 29), .inl (ca 3, 62, .inl (zA mo_isLonger)))]) (k' := 0) (n' := 0) (ws' := fun _ => [((aMo 3), .inl (ca 0, 11, .inl (zA mo_rules))), ((aMo 25), .inl (ca 0, 12, .inl (zA mo_maybe))), ((aMo 26), .inl (ca 0, 62, .inl (zA mo_dayFrom))), ((aMo 27), .inl (ca 0, 62, .inl (zA mo_dayTo))), ((aMo 28), .inl (ca 0, 62, .inl (zA mo_dayRun))), ((aMo 29), .inl (ca 3, 62, .inl (zA mo_isLonger))), ((aMo 0), .inr (11, [.ref (aMo 1), .int (zI mo_taped), .ref (aMo 3), .ref (aMo 4), .ref (aMo 5), .ref (aMo 6), .ref (aMo 7), .ref (aMo 8), .ref (aMo 9), .ref (aMo 10), .ref (aMo 11), .ref (aMo 12), .ref (aMo 13), .ref (aMo 14), .ref (aMo 15), .ref (aMo 16), .int (zI mo_size_16), .int (zI mo_runs_16), .ref (aMo 19), .ref (aMo 20), .ref (aMo 21), .int (zI mo_found), .int (zI mo_counted), .int (zI mo_isParted), .ref (aMo 25), .ref (aMo 26), .ref (aMo 27), .ref (aMo 28), .ref (aMo 29), .int (zI mo_maybes), .int (zI mo_days), .int (zI mo_over2), .int (zI mo_longer), .ref (aMo 34)])), ((aMo 5), .inl (ca 0, 4, .inl (zA mo_acts))), ((aMo 7), .inl (ca 0, 240, .inl (zA mo_kindOf))), ((aMo 8), .inl (ca 0, 240, .inl (zA mo_lengthOf))), ((aMo 13), .inl (ca 0, 20160, .inl (zA mo_laid_16))), ((aMo 14), .inl (ca 0, 20161, .inl (zA mo_driven_16))), ((aMo 15), .inl (ca 0, 60, .inl (zA mo_runFrom_16))), ((aMo 16), .inl (ca 0, 60, .inl (zA mo_runTo_16)))]) (st' := []) (kX11_lays l D ca aMo mo_taped mo_acts mo_kindOf mo_lengthOf mo_laid mo_driven mo_runFrom mo_runTo mo_size mo_runs mo_found mo_counted mo_isParted mo_maybes mo_days mo_over2 mo_longer v1 v2 (mo_laid_16, mo_driven_16, mo_runFrom_16, mo_runTo_16, mo_size_16, mo_runs_16) hc_16) wml_RX11_198 wim_X11_lays wse_X11_lays win_RX11 wco_X11_lays (nA := 2) rfl (by decide +kernel)  ⟨(Nat.le_of_ble_eq_true rfl), (Nat.le_of_ble_eq_true rfl)⟩ (Nat.le_refl _) (Nat.le_refl _) rfl (Nat.le_of_ble_eq_true rfl) dX11_day_16 0 11 rfl rfl rfl [0, 2, 3, 4, 5, 6, 7, 8] [1, 9, 10, 11, 12, 13] rfl rfl rfl (by decide) (by decide) (by decide) rfl rfl (fun _ => rfl) rfl (fun _ => ?_)
      refine g_aload_n (pc := 19) C 0 dX11_day_19 rfl rfl ?_
      obtain ⟨⟨mo_maybe_20, mo_dayFrom_20, mo_dayTo_20, mo_dayRun_20, mo_isLonger_20, mo_maybes_20, mo_days_20, mo_over2_20, mo_longer_20⟩, hc_20, hf⟩ := Option.bind_eq_some_iff.mp hf
      dsimp only at hf
      refine g_callV (pc := 20) C hl0 (wr := [((aMo 5), .inl (ca 0, 4, .inl (zA mo_acts))), ((aMo 7), .inl (ca 0, 240, .inl (zA mo_kindOf))), ((aMo 8), .inl (ca 0, 240, .inl (zA mo_lengthOf))), ((aMo 13), .inl (ca 0, 20160, .inl (zA mo_laid_16)))]) (k' := 0) (n' := 0) (ws' := fun _ => [((aMo 5), .inl (ca 0, 4, .inl (zA mo_acts))), ((aMo 7), .inl (ca 0, 240, .inl (zA mo_kindOf))), ((aMo 8), .inl (ca 0, 240, .inl (zA mo_lengthOf))), ((aMo 13), .inl (ca 0, 20160, .inl (zA mo_laid_16))), ((aMo 0), .inr (11, [.ref (aMo 1), .int (zI mo_taped), .ref (aMo 3), .ref (aMo 4), .ref (aMo 5), .ref (aMo 6), .ref (aMo 7), .ref (aMo 8), .ref (aMo 9), .ref (aMo 10), .ref (aMo 11), .ref (aMo 12), .ref (aMo 13), .ref (aMo 14), .ref (aMo 15), .ref (aMo 16), .int (zI mo_size_16), .int (zI mo_runs_16), .ref (aMo 19), .ref (aMo 20), .ref (aMo 21), .int (zI mo_found), .int (zI mo_counted), .int (zI mo_isParted), .ref (aMo 25), .ref (aMo 26), .ref (aMo 27), .ref (aMo 28), .ref (aMo 29), .int (zI mo_maybes_20), .int (zI mo_days_20), .int (zI mo_over2_20), .int (zI mo_longer_20), .ref (aMo 34)])), ((aMo 3), .inl (ca 0, 11, .inl (zA mo_rules))), ((aMo 14), .inl (ca 0, 20161, .inl (zA mo_driven_16))), ((aMo 15), .inl (ca 0, 60, .inl (zA mo_runFrom_16))), ((aMo 16), .inl (ca 0, 60, .inl (zA mo_runTo_16))), ((aMo 25), .inl (ca 0, 12, .inl (zA mo_maybe_20))), ((aMo 26), .inl (ca 0, 62, .inl (zA mo_dayFrom_20))), ((aMo 27), .inl (ca 0, 62, .inl (zA mo_dayTo_20))), ((aMo 28), .inl (ca 0, 62, .inl (zA mo_dayRun_20))), ((aMo 29), .inl (ca 3, 62, .inl (zA mo_isLonger_20)))]) (st' := []) (kX11_chooses l D ca aMo mo_taped mo_rules mo_driven_16 mo_runFrom_16 mo_runTo_16 mo_size_16 mo_runs_16 mo_found mo_counted mo_isParted mo_maybe mo_dayFrom mo_dayTo mo_dayRun mo_isLonger mo_maybes mo_days mo_over2 mo_longer (mo_maybe_20, mo_dayFrom_20, mo_dayTo_20, mo_dayRun_20, mo_isLonger_20, mo_maybes_20, mo_days_20, mo_over2_20, mo_longer_20) hc_20) wml_RX11_205 wim_X11_chooses wse_X11_chooses win_RX11 wco_X11_chooses (nA := 0) rfl (by decide +kernel)  ⟨(Nat.le_of_ble_eq_true rfl), (Nat.le_of_ble_eq_true rfl)⟩ (Nat.le_refl _) (Nat.le_refl _) rfl (Nat.le_of_ble_eq_true rfl) dX11_day_20 6 11 rfl rfl rfl [6, 0, 11, 12, 13, 1, 2, 3, 4, 5] [7, 8, 9, 10] rfl rfl rfl (by decide) (by decide) (by decide) rfl rfl (fun _ => rfl) rfl (fun _ => ?_)
      refine g_iload_n (pc := 23) C 3 dX11_day_23 rfl rfl ?_
      refine g_aload_n (pc := 24) C 0 dX11_day_24 rfl rfl ?_
      refine g_get (pc := 25) C zf_X11_154 4 rfl rfl dX11_day_25 ?_
      refine g_icmp_lt (pc := 28) C (tgt := 33) dX11_day_28 (by decide) hf (fun hf => ?_) (fun hf => ?_)
      · refine g_iload (pc := 33) C 4 dX11_day_33 rfl ?_
        obtain ⟨hx_35, hf⟩ := zck hf
        by_cases hc_35_0 : v4 = 0
        · rw [if_pos hc_35_0] at hf
          refine g_tabIn (pc := 35) C (tgt := 68) dX11_day_35 hx_35 hc_35_0 (by decide) (by decide) rfl (by decide) ?_
          refine g_aload_n (pc := 68) C 0 dX11_day_68 rfl rfl ?_
          refine g_get (pc := 69) C zf_X11_68 4 rfl rfl dX11_day_69 ?_
          refine g_iload_n (pc := 72) C 3 dX11_day_72 rfl rfl ?_
          refine g_iald (pc := 73) C (N := 62) 10 rfl rfl (Nat.le_of_ble_eq_true rfl) dX11_day_73 hf (fun hf => ?_)
          exact g_iret (pc := 74) C hf E rfl (fun _ => 0) [4, 5, 0, 1, 2, 3, 6, 7, 8, 9, 10, 11, 12, 13] (by decide) rfl rfl (Nat.le_refl _) (Nat.le_refl _) dX11_day_74
        · rw [if_neg hc_35_0] at hf
          by_cases hc_35_1 : v4 = 1
          · rw [if_pos hc_35_1] at hf
            refine g_tabIn (pc := 35) C (tgt := 75) dX11_day_35 hx_35 hc_35_1 (by decide) (by decide) rfl (by decide) ?_
            refine g_aload_n (pc := 75) C 0 dX11_day_75 rfl rfl ?_
            refine g_get (pc := 76) C zf_X11_71 4 rfl rfl dX11_day_76 ?_
            refine g_iload_n (pc := 79) C 3 dX11_day_79 rfl rfl ?_
            refine g_iald (pc := 80) C (N := 62) 11 rfl rfl (Nat.le_of_ble_eq_true rfl) dX11_day_80 hf (fun hf => ?_)
            exact g_iret (pc := 81) C hf E rfl (fun _ => 0) [4, 5, 0, 1, 2, 3, 6, 7, 8, 9, 10, 11, 12, 13] (by decide) rfl rfl (Nat.le_refl _) (Nat.le_refl _) dX11_day_81
          · rw [if_neg hc_35_1] at hf
            by_cases hc_35_2 : v4 = 2
            · rw [if_pos hc_35_2] at hf
              refine g_tabIn (pc := 35) C (tgt := 82) dX11_day_35 hx_35 hc_35_2 (by decide) (by decide) rfl (by decide) ?_
              refine g_aload_n (pc := 82) C 0 dX11_day_82 rfl rfl ?_
              refine g_aload_n (pc := 83) C 0 dX11_day_83 rfl rfl ?_
              refine g_get (pc := 84) C zf_X11_68 4 rfl rfl dX11_day_84 ?_
              refine g_iload_n (pc := 87) C 3 dX11_day_87 rfl rfl ?_
              refine g_iald (pc := 88) C (N := 62) 10 rfl rfl (Nat.le_of_ble_eq_true rfl) dX11_day_88 hf (fun hf => ?_)
              refine g_aload_n (pc := 89) C 0 dX11_day_89 rfl rfl ?_
              refine g_get (pc := 90) C zf_X11_71 4 rfl rfl dX11_day_90 ?_
              refine g_iload_n (pc := 93) C 3 dX11_day_93 rfl rfl ?_
              refine g_iald (pc := 94) C (N := 62) 11 rfl rfl (Nat.le_of_ble_eq_true rfl) dX11_day_94 hf (fun hf => ?_)
              obtain ⟨r_95, hc_95, hf⟩ := Option.bind_eq_some_iff.mp hf
              refine g_callV (pc := 95) C hl0 (wr := [((aMo 5), .inl (ca 0, 4, .inl (zA mo_acts))), ((aMo 7), .inl (ca 0, 240, .inl (zA mo_kindOf))), ((aMo 8), .inl (ca 0, 240, .inl (zA mo_lengthOf))), ((aMo 13), .inl (ca 0, 20160, .inl (zA mo_laid_16))), ((aMo 3), .inl (ca 0, 11, .inl (zA mo_rules))), ((aMo 15), .inl (ca 0, 60, .inl (zA mo_runFrom_16))), ((aMo 16), .inl (ca 0, 60, .inl (zA mo_runTo_16))), ((aMo 25), .inl (ca 0, 12, .inl (zA mo_maybe_20))), ((aMo 26), .inl (ca 0, 62, .inl (zA mo_dayFrom_20))), ((aMo 27), .inl (ca 0, 62, .inl (zA mo_dayTo_20))), ((aMo 28), .inl (ca 0, 62, .inl (zA mo_dayRun_20))), ((aMo 29), .inl (ca 3, 62, .inl (zA mo_isLonger_20)))]) (k' := 0) (n' := 0) (ws' := fun _ => [((aMo 5), .inl (ca 0, 4, .inl (zA mo_acts))), ((aMo 7), .inl (ca 0, 240, .inl (zA mo_kindOf))), ((aMo 8), .inl (ca 0, 240, .inl (zA mo_lengthOf))), ((aMo 13), .inl (ca 0, 20160, .inl (zA mo_laid_16))), ((aMo 3), .inl (ca 0, 11, .inl (zA mo_rules))), ((aMo 15), .inl (ca 0, 60, .inl (zA mo_runFrom_16))), ((aMo 16), .inl (ca 0, 60, .inl (zA mo_runTo_16))), ((aMo 25), .inl (ca 0, 12, .inl (zA mo_maybe_20))), ((aMo 26), .inl (ca 0, 62, .inl (zA mo_dayFrom_20))), ((aMo 27), .inl (ca 0, 62, .inl (zA mo_dayTo_20))), ((aMo 28), .inl (ca 0, 62, .inl (zA mo_dayRun_20))), ((aMo 29), .inl (ca 3, 62, .inl (zA mo_isLonger_20))), ((aMo 0), .inr (11, [.ref (aMo 1), .int (zI mo_taped), .ref (aMo 3), .ref (aMo 4), .ref (aMo 5), .ref (aMo 6), .ref (aMo 7), .ref (aMo 8), .ref (aMo 9), .ref (aMo 10), .ref (aMo 11), .ref (aMo 12), .ref (aMo 13), .ref (aMo 14), .ref (aMo 15), .ref (aMo 16), .int (zI mo_size_16), .int (zI mo_runs_16), .ref (aMo 19), .ref (aMo 20), .ref (aMo 21), .int (zI mo_found), .int (zI mo_counted), .int (zI mo_isParted), .ref (aMo 25), .ref (aMo 26), .ref (aMo 27), .ref (aMo 28), .ref (aMo 29), .int (zI mo_maybes_20), .int (zI mo_days_20), .int (zI mo_over2_20), .int (zI mo_longer_20), .ref (aMo 34)])), ((aMo 14), .inl (ca 0, 20161, .inl (zA mo_driven_16)))]) (st' := [.int (zI r_95)]) (kX11_driveIn l D ca aMo mo_taped mo_driven_16 mo_size_16 mo_runs_16 mo_found mo_counted mo_isParted mo_maybes_20 mo_days_20 mo_over2_20 mo_longer_20 (mo_dayFrom_20 v3.toNat) (mo_dayTo_20 v3.toNat) r_95 hc_95) wml_RX11_160 wim_X11_driveIn wse_X11_driveIn win_RX11 wco_X11_driveIn (nA := 2) rfl (by decide +kernel)  ⟨(Nat.le_of_ble_eq_true rfl), (Nat.le_of_ble_eq_true rfl)⟩ (Nat.le_refl _) (Nat.le_refl _) rfl (Nat.le_of_ble_eq_true rfl) dX11_day_95 4 11 rfl rfl rfl [4, 6] [0, 1, 2, 3, 5, 7, 8, 9, 10, 11, 12, 13] rfl rfl rfl (by decide) (by decide) (by decide) rfl rfl (fun _ => rfl) rfl (fun _ => ?_)
              exact g_iret (pc := 98) C hf E rfl (fun _ => 0) [12, 4, 0, 1, 2, 3, 13, 5, 6, 7, 8, 9, 10, 11] (by decide) rfl rfl (Nat.le_refl _) (Nat.le_refl _) dX11_day_98
            · rw [if_neg hc_35_2] at hf
              by_cases hc_35_3 : v4 = 3
              · rw [if_pos hc_35_3] at hf
                refine g_tabIn (pc := 35) C (tgt := 99) dX11_day_35 hx_35 hc_35_3 (by decide) (by decide) rfl (by decide) ?_
                refine g_aload_n (pc := 99) C 0 dX11_day_99 rfl rfl ?_
                refine g_get (pc := 100) C zf_X11_77 4 rfl rfl dX11_day_100 ?_
                refine g_iload_n (pc := 103) C 3 dX11_day_103 rfl rfl ?_
                refine g_zald (pc := 104) C (N := 62) 13 rfl rfl (Nat.le_of_ble_eq_true rfl) dX11_day_104 hf (fun hf => ?_)
                refine g_if_eq (pc := 105) C (tgt := 112) dX11_day_105 (by decide) hf (fun hf => ?_) (fun hf => ?_)
                · refine g_iconst (pc := 112) C dX11_day_112 ?_
                  exact g_iret (pc := 113) C hf E rfl (fun _ => 0) [4, 5, 0, 1, 2, 3, 6, 7, 8, 9, 10, 11, 12, 13] (by decide) rfl rfl (Nat.le_refl _) (Nat.le_refl _) dX11_day_113
                · refine g_iconst (pc := 108) C dX11_day_108 ?_
                  refine g_goto (pc := 109) C (tgt := 113) dX11_day_109 (by decide) ?_
                  exact g_iret (pc := 113) C hf E rfl (fun _ => 0) [4, 5, 0, 1, 2, 3, 6, 7, 8, 9, 10, 11, 12, 13] (by decide) rfl rfl (Nat.le_refl _) (Nat.le_refl _) dX11_day_113
              · rw [if_neg hc_35_3] at hf
                by_cases hc_35_4 : v4 = 4
                · rw [if_pos hc_35_4] at hf
                  refine g_tabIn (pc := 35) C (tgt := 114) dX11_day_35 hx_35 hc_35_4 (by decide) (by decide) rfl (by decide) ?_
                  refine g_aload_n (pc := 114) C 0 dX11_day_114 rfl rfl ?_
                  refine g_get (pc := 115) C zf_X11_74 4 rfl rfl dX11_day_115 ?_
                  refine g_iload_n (pc := 118) C 3 dX11_day_118 rfl rfl ?_
                  refine g_iald (pc := 119) C (N := 62) 12 rfl rfl (Nat.le_of_ble_eq_true rfl) dX11_day_119 hf (fun hf => ?_)
                  refine g_iconst (pc := 120) C dX11_day_120 ?_
                  refine g_icmp_ner (pc := 121) C (tgt := 128) dX11_day_121 (by decide) (by decide) hf (fun hf => ?_) (fun hf => ?_)
                  · refine g_aload_n (pc := 128) C 0 dX11_day_128 rfl rfl ?_
                    refine g_aload_n (pc := 129) C 0 dX11_day_129 rfl rfl ?_
                    refine g_get (pc := 130) C zf_X11_74 4 rfl rfl dX11_day_130 ?_
                    refine g_iload_n (pc := 133) C 3 dX11_day_133 rfl rfl ?_
                    refine g_iald (pc := 134) C (N := 62) 12 rfl rfl (Nat.le_of_ble_eq_true rfl) dX11_day_134 hf (fun hf => ?_)
                    obtain ⟨r_135, hc_135, hf⟩ := Option.bind_eq_some_iff.mp hf
                    refine g_callV (pc := 135) C hl0 (wr := [((aMo 5), .inl (ca 0, 4, .inl (zA mo_acts))), ((aMo 7), .inl (ca 0, 240, .inl (zA mo_kindOf))), ((aMo 8), .inl (ca 0, 240, .inl (zA mo_lengthOf))), ((aMo 13), .inl (ca 0, 20160, .inl (zA mo_laid_16))), ((aMo 3), .inl (ca 0, 11, .inl (zA mo_rules))), ((aMo 14), .inl (ca 0, 20161, .inl (zA mo_driven_16))), ((aMo 25), .inl (ca 0, 12, .inl (zA mo_maybe_20))), ((aMo 26), .inl (ca 0, 62, .inl (zA mo_dayFrom_20))), ((aMo 27), .inl (ca 0, 62, .inl (zA mo_dayTo_20))), ((aMo 28), .inl (ca 0, 62, .inl (zA mo_dayRun_20))), ((aMo 29), .inl (ca 3, 62, .inl (zA mo_isLonger_20)))]) (k' := 0) (n' := 0) (ws' := fun _ => [((aMo 5), .inl (ca 0, 4, .inl (zA mo_acts))), ((aMo 7), .inl (ca 0, 240, .inl (zA mo_kindOf))), ((aMo 8), .inl (ca 0, 240, .inl (zA mo_lengthOf))), ((aMo 13), .inl (ca 0, 20160, .inl (zA mo_laid_16))), ((aMo 3), .inl (ca 0, 11, .inl (zA mo_rules))), ((aMo 14), .inl (ca 0, 20161, .inl (zA mo_driven_16))), ((aMo 25), .inl (ca 0, 12, .inl (zA mo_maybe_20))), ((aMo 26), .inl (ca 0, 62, .inl (zA mo_dayFrom_20))), ((aMo 27), .inl (ca 0, 62, .inl (zA mo_dayTo_20))), ((aMo 28), .inl (ca 0, 62, .inl (zA mo_dayRun_20))), ((aMo 29), .inl (ca 3, 62, .inl (zA mo_isLonger_20))), ((aMo 0), .inr (11, [.ref (aMo 1), .int (zI mo_taped), .ref (aMo 3), .ref (aMo 4), .ref (aMo 5), .ref (aMo 6), .ref (aMo 7), .ref (aMo 8), .ref (aMo 9), .ref (aMo 10), .ref (aMo 11), .ref (aMo 12), .ref (aMo 13), .ref (aMo 14), .ref (aMo 15), .ref (aMo 16), .int (zI mo_size_16), .int (zI mo_runs_16), .ref (aMo 19), .ref (aMo 20), .ref (aMo 21), .int (zI mo_found), .int (zI mo_counted), .int (zI mo_isParted), .ref (aMo 25), .ref (aMo 26), .ref (aMo 27), .ref (aMo 28), .ref (aMo 29), .int (zI mo_maybes_20), .int (zI mo_days_20), .int (zI mo_over2_20), .int (zI mo_longer_20), .ref (aMo 34)])), ((aMo 15), .inl (ca 0, 60, .inl (zA mo_runFrom_16))), ((aMo 16), .inl (ca 0, 60, .inl (zA mo_runTo_16)))]) (st' := [.int (zI r_135)]) (kX11_runLength l D ca aMo mo_taped mo_runFrom_16 mo_runTo_16 mo_size_16 mo_runs_16 mo_found mo_counted mo_isParted mo_maybes_20 mo_days_20 mo_over2_20 mo_longer_20 (mo_dayRun_20 v3.toNat) r_135 hc_135) wml_RX11_141 wim_X11_runLength wse_X11_runLength win_RX11 wco_X11_runLength (nA := 1) rfl (by decide +kernel)  ⟨(Nat.le_of_ble_eq_true rfl), (Nat.le_of_ble_eq_true rfl)⟩ (Nat.le_refl _) (Nat.le_refl _) rfl (Nat.le_of_ble_eq_true rfl) dX11_day_135 4 11 rfl rfl rfl [4, 7, 8] [0, 1, 2, 3, 5, 6, 9, 10, 11, 12, 13] rfl rfl rfl (by decide) (by decide) (by decide) rfl rfl (fun _ => rfl) rfl (fun _ => ?_)
                    refine g_aload_n (pc := 138) C 0 dX11_day_138 rfl rfl ?_
                    refine g_get (pc := 139) C zf_X11_13 11 rfl rfl dX11_day_139 ?_
                    refine g_bipush (pc := 142) C dX11_day_142 (by decide) ?_
                    refine g_ialdK (pc := 144) C 7 4 rfl rfl (Nat.le_of_ble_eq_true rfl) (Nat.le_of_ble_eq_true rfl) dX11_day_144 ?_
                    refine g_icmp_lt (pc := 145) C (tgt := 152) dX11_day_145 (by decide) hf (fun hf => ?_) (fun hf => ?_)
                    · refine g_iconst (pc := 152) C dX11_day_152 ?_
                      exact g_iret (pc := 153) C hf E rfl (fun _ => 0) [11, 4, 0, 1, 2, 3, 5, 12, 13, 6, 7, 8, 9, 10] (by decide) rfl rfl (Nat.le_refl _) (Nat.le_refl _) dX11_day_153
                    · refine g_iconst (pc := 148) C dX11_day_148 ?_
                      refine g_goto (pc := 149) C (tgt := 153) dX11_day_149 (by decide) ?_
                      exact g_iret (pc := 153) C hf E rfl (fun _ => 0) [11, 4, 0, 1, 2, 3, 5, 12, 13, 6, 7, 8, 9, 10] (by decide) rfl rfl (Nat.le_refl _) (Nat.le_refl _) dX11_day_153
                  · refine g_iconst (pc := 124) C dX11_day_124 ?_
                    refine g_goto (pc := 125) C (tgt := 153) dX11_day_125 (by decide) ?_
                    exact g_iret (pc := 153) C hf E rfl (fun _ => 0) [4, 5, 0, 1, 2, 3, 6, 7, 8, 9, 10, 11, 12, 13] (by decide) rfl rfl (Nat.le_refl _) (Nat.le_refl _) dX11_day_153
                · rw [if_neg hc_35_4] at hf
                  refine g_tabOut (pc := 35) C (tgt := 154) dX11_day_35 hx_35 (by omega) (by decide) ?_
                  refine g_iconst (pc := 154) C dX11_day_154 ?_
                  exact g_iret (pc := 155) C hf E rfl (fun _ => 0) [4, 5, 0, 1, 2, 3, 6, 7, 8, 9, 10, 11, 12, 13] (by decide) rfl rfl (Nat.le_refl _) (Nat.le_refl _) dX11_day_155
      · refine g_iconst (pc := 31) C dX11_day_31 ?_
        exact g_iret (pc := 32) C hf E rfl (fun _ => 0) [4, 5, 0, 1, 2, 3, 6, 7, 8, 9, 10, 11, 12, 13] (by decide) rfl rfl (Nat.le_refl _) (Nat.le_refl _) dX11_day_32
    · refine g_sub [0, 1, 2, 3, 4, 5, 6, 7, 8, 9, 10, 11, 12, 13] [] (by decide) rfl rfl rfl ?_
      exact H11 _ _ _ _ _ _ _ _ _ _ _ _ _ _ _ hf
def oX11_types (ca : Nat → ClassId) (aMo : Nat → Nat) (mo_size : Int) (mo_runs : Int) (mo_found : Int) (mo_counted : Int) (mo_isParted : Int) (mo_maybes : Int) (mo_days : Int) (mo_over2 : Int) (mo_longer : Int) (Ro : (Nat → Int) × Int) : (Nat → Nat) → va_W := fun _ => [((aMo 0), .inr (11, [.ref (aMo 1), .int (zI (Ro.2)), .ref (aMo 3), .ref (aMo 4), .ref (aMo 5), .ref (aMo 6), .ref (aMo 7), .ref (aMo 8), .ref (aMo 9), .ref (aMo 10), .ref (aMo 11), .ref (aMo 12), .ref (aMo 13), .ref (aMo 14), .ref (aMo 15), .ref (aMo 16), .int (zI mo_size), .int (zI mo_runs), .ref (aMo 19), .ref (aMo 20), .ref (aMo 21), .int (zI mo_found), .int (zI mo_counted), .int (zI mo_isParted), .ref (aMo 25), .ref (aMo 26), .ref (aMo 27), .ref (aMo 28), .ref (aMo 29), .int (zI mo_maybes), .int (zI mo_days), .int (zI mo_over2), .int (zI mo_longer), .ref (aMo 34)])), ((aMo 1), .inl (ca 1, 80, .inl (zA (Ro.1))))]
def oiX11_types (Ro : (Nat → Int) × Int) : Option Value := none
set_option maxRecDepth 100000 in
theorem kX11_types (l : Launch) (D : va_G) (ca : Nat → ClassId) (aMo : Nat → Nat) (mo_tape : Nat → Int) (mo_taped : Int) (mo_size : Int) (mo_runs : Int) (mo_found : Int) (mo_counted : Int) (mo_isParted : Int) (mo_maybes : Int) (mo_days : Int) (mo_over2 : Int) (mo_longer : Int) (v1 : Int) (Ro : (Nat → Int) × Int)
    (hf : fX11_types v1 mo_tape mo_taped = some Ro) : Zc l D ca yX11_types cX11_types 3 none { frames := 0, cells := 0, slots := 0, locals := 0 } [.ref (aMo 0), .int (zI v1)] [((aMo 0), .inr (11, [.ref (aMo 1), .int (zI mo_taped), .ref (aMo 3), .ref (aMo 4), .ref (aMo 5), .ref (aMo 6), .ref (aMo 7), .ref (aMo 8), .ref (aMo 9), .ref (aMo 10), .ref (aMo 11), .ref (aMo 12), .ref (aMo 13), .ref (aMo 14), .ref (aMo 15), .ref (aMo 16), .int (zI mo_size), .int (zI mo_runs), .ref (aMo 19), .ref (aMo 20), .ref (aMo 21), .int (zI mo_found), .int (zI mo_counted), .int (zI mo_isParted), .ref (aMo 25), .ref (aMo 26), .ref (aMo 27), .ref (aMo 28), .ref (aMo 29), .int (zI mo_maybes), .int (zI mo_days), .int (zI mo_over2), .int (zI mo_longer), .ref (aMo 34)])), ((aMo 1), .inl (ca 1, 80, .inl (zA mo_tape)))] (oiX11_types Ro) (oX11_types ca aMo mo_size mo_runs mo_found mo_counted mo_isParted mo_maybes mo_days mo_over2 mo_longer Ro) := by
  refine ctr_of (lv := [(0, .ref (aMo 0)), (1, .int (zI v1))]) (by decide +kernel) (Nat.le_of_ble_eq_true rfl) rfl (fun Γ hl0 C E hnm => ?_)
  have H2 : ∀  (n2 : Nat) (v2 : Int) (mo_tape : Nat → Int) (mo_taped : Int), zlp (fX11_types_2 v1) n2 (v2, mo_tape, mo_taped) = some Ro → Zd D Γ 0 0 [((aMo 0), .inr (11, [.ref (aMo 1), .int (zI mo_taped), .ref (aMo 3), .ref (aMo 4), .ref (aMo 5), .ref (aMo 6), .ref (aMo 7), .ref (aMo 8), .ref (aMo 9), .ref (aMo 10), .ref (aMo 11), .ref (aMo 12), .ref (aMo 13), .ref (aMo 14), .ref (aMo 15), .ref (aMo 16), .int (zI mo_size), .int (zI mo_runs), .ref (aMo 19), .ref (aMo 20), .ref (aMo 21), .int (zI mo_found), .int (zI mo_counted), .int (zI mo_isParted), .ref (aMo 25), .ref (aMo 26), .ref (aMo 27), .ref (aMo 28), .ref (aMo 29), .int (zI mo_maybes), .int (zI mo_days), .int (zI mo_over2), .int (zI mo_longer), .ref (aMo 34)])), ((aMo 1), .inl (ca 1, 80, .inl (zA mo_tape)))] 2 [(0, .ref (aMo 0)), (1, .int (zI v1)), (2, .int (zI v2))] [] := by
    intro n2
    induction n2 with
    | zero =>
      intro v2 mo_tape mo_taped hf
      exact zno hf
    | succ n2 ih2 =>
      intro v2 mo_tape mo_taped hf
      rw [zlp_s] at hf
      unfold fX11_types_2 at hf
      dsimp only at hf
      refine g_iload_n (pc := 2) C 2 dX11_types_2 rfl rfl ?_
      refine g_if_lt (pc := 3) C (tgt := 38) dX11_types_3 (by decide) hf (fun hf => ?_) (fun hf => ?_)
      · exact g_vret (pc := 38) C hf E rfl (fun _ => 0) [0, 1] (by decide) rfl rfl (Nat.le_refl _) (Nat.le_refl _) dX11_types_38
      · refine g_aload_n (pc := 6) C 0 dX11_types_6 rfl rfl ?_
        refine g_get (pc := 7) C zf_X11_7 0 rfl rfl dX11_types_7 ?_
        refine g_aload_n (pc := 10) C 0 dX11_types_10 rfl rfl ?_
        refine g_get (pc := 11) C zf_X11_88 0 rfl rfl dX11_types_11 ?_
        refine g_iload_n (pc := 14) C 1 dX11_types_14 rfl rfl ?_
        refine g_bipush (pc := 15) C dX11_types_15 (by decide) ?_
        refine g_iload_n (pc := 17) C 2 dX11_types_17 rfl rfl ?_
        refine g_imul (pc := 18) C dX11_types_18 ?_
        refine g_ishr (pc := 19) C dX11_types_19 ?_
        refine g_i2b (pc := 20) C dX11_types_20 ?_
        refine g_bast (pc := 21) C (N := 80) (ws' := [((aMo 0), .inr (11, [.ref (aMo 1), .int (zI mo_taped), .ref (aMo 3), .ref (aMo 4), .ref (aMo 5), .ref (aMo 6), .ref (aMo 7), .ref (aMo 8), .ref (aMo 9), .ref (aMo 10), .ref (aMo 11), .ref (aMo 12), .ref (aMo 13), .ref (aMo 14), .ref (aMo 15), .ref (aMo 16), .int (zI mo_size), .int (zI mo_runs), .ref (aMo 19), .ref (aMo 20), .ref (aMo 21), .int (zI mo_found), .int (zI mo_counted), .int (zI mo_isParted), .ref (aMo 25), .ref (aMo 26), .ref (aMo 27), .ref (aMo 28), .ref (aMo 29), .int (zI mo_maybes), .int (zI mo_days), .int (zI mo_over2), .int (zI mo_longer), .ref (aMo 34)])), ((aMo 1), .inl (ca 1, 80, .inl (zA (zU mo_tape mo_taped.toNat (zi2b (zshr v1 (8 * v2)))))))]) 1 rfl rfl (Nat.le_of_ble_eq_true rfl) (zi2b_nar _) rfl dX11_types_21 hf (fun hf => ?_)
        refine g_aload_n (pc := 22) C 0 dX11_types_22 rfl rfl ?_
        refine g_aload_n (pc := 23) C 0 dX11_types_23 rfl rfl ?_
        refine g_get (pc := 24) C zf_X11_88 0 rfl rfl dX11_types_24 ?_
        refine g_iconst (pc := 27) C dX11_types_27 ?_
        refine g_iadd (pc := 28) C dX11_types_28 ?_
        refine g_put (pc := 29) C zf_X11_88 tyX11 tyX11_ok nmX11 (v := .int (zI (mo_taped + 1))) (ws' := [((aMo 0), .inr (11, [.ref (aMo 1), .int (zI (mo_taped + 1)), .ref (aMo 3), .ref (aMo 4), .ref (aMo 5), .ref (aMo 6), .ref (aMo 7), .ref (aMo 8), .ref (aMo 9), .ref (aMo 10), .ref (aMo 11), .ref (aMo 12), .ref (aMo 13), .ref (aMo 14), .ref (aMo 15), .ref (aMo 16), .int (zI mo_size), .int (zI mo_runs), .ref (aMo 19), .ref (aMo 20), .ref (aMo 21), .int (zI mo_found), .int (zI mo_counted), .int (zI mo_isParted), .ref (aMo 25), .ref (aMo 26), .ref (aMo 27), .ref (aMo 28), .ref (aMo 29), .int (zI mo_maybes), .int (zI mo_days), .int (zI mo_over2), .int (zI mo_longer), .ref (aMo 34)])), ((aMo 1), .inl (ca 1, 80, .inl (zA (zU mo_tape mo_taped.toNat (zi2b (zshr v1 (8 * v2)))))))]) 0 rfl rfl rfl rfl rfl (Nat.le_of_ble_eq_true rfl) rfl rfl dX11_types_29 ?_
        refine g_iinc (pc := 32) C 2 (lv' := [(2, .int (zI (v2 + (-1)))), (0, .ref (aMo 0)), (1, .int (zI v1))]) dX11_types_32 rfl (Nat.le_of_ble_eq_true rfl) rfl ?_
        refine g_goto (pc := 35) C (tgt := 2) dX11_types_35 (by decide) ?_
        refine g_sub [0, 1] [1, 2, 0] (by decide) rfl rfl rfl ?_
        exact ih2 _ _ _ hf
  unfold fX11_types at hf
  refine g_iconst (pc := 0) C dX11_types_0 ?_
  refine g_istore_n (pc := 1) C (lv' := [(2, .int (zI 3)), (0, .ref (aMo 0)), (1, .int (zI v1))]) dX11_types_1 rfl (Nat.le_of_ble_eq_true rfl) rfl ?_
  refine g_sub [0, 1] [1, 2, 0] (by decide) rfl rfl rfl ?_
  exact H2 _ _ _ _ hf
def oX11_feed (ca : Nat → ClassId) (aMo : Nat → Nat) (mo_size : Int) (mo_runs : Int) (mo_found : Int) (mo_counted : Int) (mo_isParted : Int) (mo_maybes : Int) (mo_days : Int) (mo_over2 : Int) (mo_longer : Int) (Ro : Int × (Nat → Int) × Int) : (Nat → Nat) → va_W := fun _ => [((aMo 0), .inr (11, [.ref (aMo 1), .int (zI (Ro.2.2)), .ref (aMo 3), .ref (aMo 4), .ref (aMo 5), .ref (aMo 6), .ref (aMo 7), .ref (aMo 8), .ref (aMo 9), .ref (aMo 10), .ref (aMo 11), .ref (aMo 12), .ref (aMo 13), .ref (aMo 14), .ref (aMo 15), .ref (aMo 16), .int (zI mo_size), .int (zI mo_runs), .ref (aMo 19), .ref (aMo 20), .ref (aMo 21), .int (zI mo_found), .int (zI mo_counted), .int (zI mo_isParted), .ref (aMo 25), .ref (aMo 26), .ref (aMo 27), .ref (aMo 28), .ref (aMo 29), .int (zI mo_maybes), .int (zI mo_days), .int (zI mo_over2), .int (zI mo_longer), .ref (aMo 34)])), ((aMo 1), .inl (ca 1, 80, .inl (zA (Ro.2.1))))]
def oiX11_feed (Ro : Int × (Nat → Int) × Int) : Option Value := (some (.int (zI Ro.1)))
set_option maxRecDepth 100000 in
theorem kX11_feed (l : Launch) (D : va_G) (ca : Nat → ClassId) (aMo : Nat → Nat) (mo_tape : Nat → Int) (mo_taped : Int) (mo_size : Int) (mo_runs : Int) (mo_found : Int) (mo_counted : Int) (mo_isParted : Int) (mo_maybes : Int) (mo_days : Int) (mo_over2 : Int) (mo_longer : Int) (v1 : Int) (v2 : Int) (v3 : Int) (v4 : Int) (v5 : Int) (Ro : Int × (Nat → Int) × Int)
    (hf : fX11_feed v1 v2 v3 v4 v5 mo_tape mo_taped = some Ro) : Zc l D ca yX11_feed cX11_feed 6 (some .int) { frames := 1, cells := 0, slots := 0, locals := 22 } [.ref (aMo 0), .int (zI v1), .int (zI v2), .int (zI v3), .int (zI v4), .int (zI v5)] [((aMo 0), .inr (11, [.ref (aMo 1), .int (zI mo_taped), .ref (aMo 3), .ref (aMo 4), .ref (aMo 5), .ref (aMo 6), .ref (aMo 7), .ref (aMo 8), .ref (aMo 9), .ref (aMo 10), .ref (aMo 11), .ref (aMo 12), .ref (aMo 13), .ref (aMo 14), .ref (aMo 15), .ref (aMo 16), .int (zI mo_size), .int (zI mo_runs), .ref (aMo 19), .ref (aMo 20), .ref (aMo 21), .int (zI mo_found), .int (zI mo_counted), .int (zI mo_isParted), .ref (aMo 25), .ref (aMo 26), .ref (aMo 27), .ref (aMo 28), .ref (aMo 29), .int (zI mo_maybes), .int (zI mo_days), .int (zI mo_over2), .int (zI mo_longer), .ref (aMo 34)])), ((aMo 1), .inl (ca 1, 80, .inl (zA mo_tape)))] (oiX11_feed Ro) (oX11_feed ca aMo mo_size mo_runs mo_found mo_counted mo_isParted mo_maybes mo_days mo_over2 mo_longer Ro) := by
  refine ctr_of (lv := [(0, .ref (aMo 0)), (1, .int (zI v1)), (2, .int (zI v2)), (3, .int (zI v3)), (4, .int (zI v4)), (5, .int (zI v5))]) (by decide +kernel) (Nat.le_of_ble_eq_true rfl) rfl (fun Γ hl0 C E hnm => ?_)
  unfold fX11_feed at hf
  refine g_aload_n (pc := 0) C 0 dX11_feed_0 rfl rfl ?_
  refine g_get (pc := 1) C zf_X11_88 0 rfl rfl dX11_feed_1 ?_
  refine g_bipush (pc := 4) C dX11_feed_4 (by decide) ?_
  refine g_iadd (pc := 6) C dX11_feed_6 ?_
  refine g_bipush (pc := 7) C dX11_feed_7 (by decide) ?_
  refine g_icmp_ler (pc := 9) C (tgt := 14) dX11_feed_9 (by decide) (by decide) hf (fun hf => ?_) (fun hf => ?_)
  · refine g_aload_n (pc := 14) C 0 dX11_feed_14 rfl rfl ?_
    refine g_iload_n (pc := 15) C 1 dX11_feed_15 rfl rfl ?_
    obtain ⟨⟨mo_tape_16, mo_taped_16⟩, hc_16, hf⟩ := Option.bind_eq_some_iff.mp hf
    dsimp only at hf
    refine g_callV (pc := 16) C hl0 (wr := []) (k' := 0) (n' := 0) (ws' := fun _ => [((aMo 0), .inr (11, [.ref (aMo 1), .int (zI mo_taped_16), .ref (aMo 3), .ref (aMo 4), .ref (aMo 5), .ref (aMo 6), .ref (aMo 7), .ref (aMo 8), .ref (aMo 9), .ref (aMo 10), .ref (aMo 11), .ref (aMo 12), .ref (aMo 13), .ref (aMo 14), .ref (aMo 15), .ref (aMo 16), .int (zI mo_size), .int (zI mo_runs), .ref (aMo 19), .ref (aMo 20), .ref (aMo 21), .int (zI mo_found), .int (zI mo_counted), .int (zI mo_isParted), .ref (aMo 25), .ref (aMo 26), .ref (aMo 27), .ref (aMo 28), .ref (aMo 29), .int (zI mo_maybes), .int (zI mo_days), .int (zI mo_over2), .int (zI mo_longer), .ref (aMo 34)])), ((aMo 1), .inl (ca 1, 80, .inl (zA mo_tape_16)))]) (st' := []) (kX11_types l D ca aMo mo_tape mo_taped mo_size mo_runs mo_found mo_counted mo_isParted mo_maybes mo_days mo_over2 mo_longer v1 (mo_tape_16, mo_taped_16) hc_16) wml_RX11_92 wim_X11_types wse_X11_types win_RX11 wco_X11_types (nA := 1) rfl (by decide +kernel)  ⟨(Nat.le_of_ble_eq_true rfl), (Nat.le_of_ble_eq_true rfl)⟩ (Nat.le_refl _) (Nat.le_refl _) rfl (Nat.le_of_ble_eq_true rfl) dX11_feed_16 0 11 rfl rfl rfl [0, 1] [] rfl rfl rfl (by decide) (by decide) (by decide) rfl rfl (fun _ => rfl) rfl (fun _ => ?_)
    refine g_aload_n (pc := 19) C 0 dX11_feed_19 rfl rfl ?_
    refine g_iload_n (pc := 20) C 2 dX11_feed_20 rfl rfl ?_
    obtain ⟨⟨mo_tape_21, mo_taped_21⟩, hc_21, hf⟩ := Option.bind_eq_some_iff.mp hf
    dsimp only at hf
    refine g_callV (pc := 21) C hl0 (wr := []) (k' := 0) (n' := 0) (ws' := fun _ => [((aMo 0), .inr (11, [.ref (aMo 1), .int (zI mo_taped_21), .ref (aMo 3), .ref (aMo 4), .ref (aMo 5), .ref (aMo 6), .ref (aMo 7), .ref (aMo 8), .ref (aMo 9), .ref (aMo 10), .ref (aMo 11), .ref (aMo 12), .ref (aMo 13), .ref (aMo 14), .ref (aMo 15), .ref (aMo 16), .int (zI mo_size), .int (zI mo_runs), .ref (aMo 19), .ref (aMo 20), .ref (aMo 21), .int (zI mo_found), .int (zI mo_counted), .int (zI mo_isParted), .ref (aMo 25), .ref (aMo 26), .ref (aMo 27), .ref (aMo 28), .ref (aMo 29), .int (zI mo_maybes), .int (zI mo_days), .int (zI mo_over2), .int (zI mo_longer), .ref (aMo 34)])), ((aMo 1), .inl (ca 1, 80, .inl (zA mo_tape_21)))]) (st' := []) (kX11_types l D ca aMo mo_tape_16 mo_taped_16 mo_size mo_runs mo_found mo_counted mo_isParted mo_maybes mo_days mo_over2 mo_longer v2 (mo_tape_21, mo_taped_21) hc_21) wml_RX11_92 wim_X11_types wse_X11_types win_RX11 wco_X11_types (nA := 1) rfl (by decide +kernel)  ⟨(Nat.le_of_ble_eq_true rfl), (Nat.le_of_ble_eq_true rfl)⟩ (Nat.le_refl _) (Nat.le_refl _) rfl (Nat.le_of_ble_eq_true rfl) dX11_feed_21 0 11 rfl rfl rfl [0, 1] [] rfl rfl rfl (by decide) (by decide) (by decide) rfl rfl (fun _ => rfl) rfl (fun _ => ?_)
    refine g_aload_n (pc := 24) C 0 dX11_feed_24 rfl rfl ?_
    refine g_iload_n (pc := 25) C 3 dX11_feed_25 rfl rfl ?_
    obtain ⟨⟨mo_tape_26, mo_taped_26⟩, hc_26, hf⟩ := Option.bind_eq_some_iff.mp hf
    dsimp only at hf
    refine g_callV (pc := 26) C hl0 (wr := []) (k' := 0) (n' := 0) (ws' := fun _ => [((aMo 0), .inr (11, [.ref (aMo 1), .int (zI mo_taped_26), .ref (aMo 3), .ref (aMo 4), .ref (aMo 5), .ref (aMo 6), .ref (aMo 7), .ref (aMo 8), .ref (aMo 9), .ref (aMo 10), .ref (aMo 11), .ref (aMo 12), .ref (aMo 13), .ref (aMo 14), .ref (aMo 15), .ref (aMo 16), .int (zI mo_size), .int (zI mo_runs), .ref (aMo 19), .ref (aMo 20), .ref (aMo 21), .int (zI mo_found), .int (zI mo_counted), .int (zI mo_isParted), .ref (aMo 25), .ref (aMo 26), .ref (aMo 27), .ref (aMo 28), .ref (aMo 29), .int (zI mo_maybes), .int (zI mo_days), .int (zI mo_over2), .int (zI mo_longer), .ref (aMo 34)])), ((aMo 1), .inl (ca 1, 80, .inl (zA mo_tape_26)))]) (st' := []) (kX11_types l D ca aMo mo_tape_21 mo_taped_21 mo_size mo_runs mo_found mo_counted mo_isParted mo_maybes mo_days mo_over2 mo_longer v3 (mo_tape_26, mo_taped_26) hc_26) wml_RX11_92 wim_X11_types wse_X11_types win_RX11 wco_X11_types (nA := 1) rfl (by decide +kernel)  ⟨(Nat.le_of_ble_eq_true rfl), (Nat.le_of_ble_eq_true rfl)⟩ (Nat.le_refl _) (Nat.le_refl _) rfl (Nat.le_of_ble_eq_true rfl) dX11_feed_26 0 11 rfl rfl rfl [0, 1] [] rfl rfl rfl (by decide) (by decide) (by decide) rfl rfl (fun _ => rfl) rfl (fun _ => ?_)
    refine g_aload_n (pc := 29) C 0 dX11_feed_29 rfl rfl ?_
    refine g_iload (pc := 30) C 4 dX11_feed_30 rfl ?_
    obtain ⟨⟨mo_tape_32, mo_taped_32⟩, hc_32, hf⟩ := Option.bind_eq_some_iff.mp hf
    dsimp only at hf
    refine g_callV (pc := 32) C hl0 (wr := []) (k' := 0) (n' := 0) (ws' := fun _ => [((aMo 0), .inr (11, [.ref (aMo 1), .int (zI mo_taped_32), .ref (aMo 3), .ref (aMo 4), .ref (aMo 5), .ref (aMo 6), .ref (aMo 7), .ref (aMo 8), .ref (aMo 9), .ref (aMo 10), .ref (aMo 11), .ref (aMo 12), .ref (aMo 13), .ref (aMo 14), .ref (aMo 15), .ref (aMo 16), .int (zI mo_size), .int (zI mo_runs), .ref (aMo 19), .ref (aMo 20), .ref (aMo 21), .int (zI mo_found), .int (zI mo_counted), .int (zI mo_isParted), .ref (aMo 25), .ref (aMo 26), .ref (aMo 27), .ref (aMo 28), .ref (aMo 29), .int (zI mo_maybes), .int (zI mo_days), .int (zI mo_over2), .int (zI mo_longer), .ref (aMo 34)])), ((aMo 1), .inl (ca 1, 80, .inl (zA mo_tape_32)))]) (st' := []) (kX11_types l D ca aMo mo_tape_26 mo_taped_26 mo_size mo_runs mo_found mo_counted mo_isParted mo_maybes mo_days mo_over2 mo_longer v4 (mo_tape_32, mo_taped_32) hc_32) wml_RX11_92 wim_X11_types wse_X11_types win_RX11 wco_X11_types (nA := 1) rfl (by decide +kernel)  ⟨(Nat.le_of_ble_eq_true rfl), (Nat.le_of_ble_eq_true rfl)⟩ (Nat.le_refl _) (Nat.le_refl _) rfl (Nat.le_of_ble_eq_true rfl) dX11_feed_32 0 11 rfl rfl rfl [0, 1] [] rfl rfl rfl (by decide) (by decide) (by decide) rfl rfl (fun _ => rfl) rfl (fun _ => ?_)
    refine g_aload_n (pc := 35) C 0 dX11_feed_35 rfl rfl ?_
    refine g_iload (pc := 36) C 5 dX11_feed_36 rfl ?_
    obtain ⟨⟨mo_tape_38, mo_taped_38⟩, hc_38, hf⟩ := Option.bind_eq_some_iff.mp hf
    dsimp only at hf
    refine g_callV (pc := 38) C hl0 (wr := []) (k' := 0) (n' := 0) (ws' := fun _ => [((aMo 0), .inr (11, [.ref (aMo 1), .int (zI mo_taped_38), .ref (aMo 3), .ref (aMo 4), .ref (aMo 5), .ref (aMo 6), .ref (aMo 7), .ref (aMo 8), .ref (aMo 9), .ref (aMo 10), .ref (aMo 11), .ref (aMo 12), .ref (aMo 13), .ref (aMo 14), .ref (aMo 15), .ref (aMo 16), .int (zI mo_size), .int (zI mo_runs), .ref (aMo 19), .ref (aMo 20), .ref (aMo 21), .int (zI mo_found), .int (zI mo_counted), .int (zI mo_isParted), .ref (aMo 25), .ref (aMo 26), .ref (aMo 27), .ref (aMo 28), .ref (aMo 29), .int (zI mo_maybes), .int (zI mo_days), .int (zI mo_over2), .int (zI mo_longer), .ref (aMo 34)])), ((aMo 1), .inl (ca 1, 80, .inl (zA mo_tape_38)))]) (st' := []) (kX11_types l D ca aMo mo_tape_32 mo_taped_32 mo_size mo_runs mo_found mo_counted mo_isParted mo_maybes mo_days mo_over2 mo_longer v5 (mo_tape_38, mo_taped_38) hc_38) wml_RX11_92 wim_X11_types wse_X11_types win_RX11 wco_X11_types (nA := 1) rfl (by decide +kernel)  ⟨(Nat.le_of_ble_eq_true rfl), (Nat.le_of_ble_eq_true rfl)⟩ (Nat.le_refl _) (Nat.le_refl _) rfl (Nat.le_of_ble_eq_true rfl) dX11_feed_38 0 11 rfl rfl rfl [0, 1] [] rfl rfl rfl (by decide) (by decide) (by decide) rfl rfl (fun _ => rfl) rfl (fun _ => ?_)
    refine g_aload_n (pc := 41) C 0 dX11_feed_41 rfl rfl ?_
    refine g_get (pc := 42) C zf_X11_88 0 rfl rfl dX11_feed_42 ?_
    exact g_iret (pc := 45) C hf E rfl (fun _ => 0) [0, 1] (by decide) rfl rfl (Nat.le_refl _) (Nat.le_refl _) dX11_feed_45
  · refine g_iconst (pc := 12) C dX11_feed_12 ?_
    exact g_iret (pc := 13) C hf E rfl (fun _ => 0) [0, 1] (by decide) rfl rfl (Nat.le_refl _) (Nat.le_refl _) dX11_feed_13
def oX11_greater (ca : Nat → ClassId)   (Ro : Int) : (Nat → Nat) → va_W := fun _ => []
def oiX11_greater (Ro : Int) : Option Value := (some (.int (zI Ro)))
set_option maxRecDepth 100000 in
theorem kX11_greater (l : Launch) (D : va_G) (ca : Nat → ClassId)   (v0 : Int) (v1 : Int) (Ro : Int)
    (hf : fX11_greater v0 v1 = some Ro) : Zc l D ca yX11_greater cX11_greater 2 (some .int) { frames := 0, cells := 0, slots := 0, locals := 0 } [.int (zI v0), .int (zI v1)] [] (oiX11_greater Ro) (oX11_greater ca Ro) := by
  refine ctr_of (lv := [(0, .int (zI v0)), (1, .int (zI v1))]) (by decide +kernel) (Nat.le_of_ble_eq_true rfl) rfl (fun Γ hl0 C E hnm => ?_)
  unfold fX11_greater at hf
  refine g_iload_n (pc := 0) C 0 dX11_greater_0 rfl rfl ?_
  refine g_iload_n (pc := 1) C 1 dX11_greater_1 rfl rfl ?_
  refine g_icmp_le (pc := 2) C (tgt := 9) dX11_greater_2 (by decide) hf (fun hf => ?_) (fun hf => ?_)
  · refine g_iload_n (pc := 9) C 1 dX11_greater_9 rfl rfl ?_
    exact g_iret (pc := 10) C hf E rfl (fun _ => 0) [] (by decide) rfl rfl (Nat.le_refl _) (Nat.le_refl _) dX11_greater_10
  · refine g_iload_n (pc := 5) C 0 dX11_greater_5 rfl rfl ?_
    refine g_goto (pc := 6) C (tgt := 10) dX11_greater_6 (by decide) ?_
    exact g_iret (pc := 10) C hf E rfl (fun _ => 0) [] (by decide) rfl rfl (Nat.le_refl _) (Nat.le_refl _) dX11_greater_10
def oX11_isDigit (ca : Nat → ClassId) (aMo : Nat → Nat) (mo_tape : Nat → Int) (mo_taped : Int) (mo_size : Int) (mo_runs : Int) (mo_found : Int) (mo_counted : Int) (mo_isParted : Int) (mo_maybes : Int) (mo_days : Int) (mo_over2 : Int) (mo_longer : Int) (Ro : Int) : (Nat → Nat) → va_W := fun _ => [((aMo 0), .inr (11, [.ref (aMo 1), .int (zI mo_taped), .ref (aMo 3), .ref (aMo 4), .ref (aMo 5), .ref (aMo 6), .ref (aMo 7), .ref (aMo 8), .ref (aMo 9), .ref (aMo 10), .ref (aMo 11), .ref (aMo 12), .ref (aMo 13), .ref (aMo 14), .ref (aMo 15), .ref (aMo 16), .int (zI mo_size), .int (zI mo_runs), .ref (aMo 19), .ref (aMo 20), .ref (aMo 21), .int (zI mo_found), .int (zI mo_counted), .int (zI mo_isParted), .ref (aMo 25), .ref (aMo 26), .ref (aMo 27), .ref (aMo 28), .ref (aMo 29), .int (zI mo_maybes), .int (zI mo_days), .int (zI mo_over2), .int (zI mo_longer), .ref (aMo 34)])), ((aMo 1), .inl (ca 1, 80, .inl (zA mo_tape)))]
def oiX11_isDigit (Ro : Int) : Option Value := (some (.int (zI Ro)))
set_option maxRecDepth 100000 in
theorem kX11_isDigit (l : Launch) (D : va_G) (ca : Nat → ClassId) (aMo : Nat → Nat) (mo_tape : Nat → Int) (mo_taped : Int) (mo_size : Int) (mo_runs : Int) (mo_found : Int) (mo_counted : Int) (mo_isParted : Int) (mo_maybes : Int) (mo_days : Int) (mo_over2 : Int) (mo_longer : Int) (v1 : Int) (v2 : Int) (Ro : Int)
    (hf : fX11_isDigit v1 v2 mo_tape = some Ro) : Zc l D ca yX11_isDigit cX11_isDigit 3 (some .boolean) { frames := 0, cells := 0, slots := 0, locals := 0 } [.ref (aMo 0), .int (zI v1), .int (zI v2)] [((aMo 0), .inr (11, [.ref (aMo 1), .int (zI mo_taped), .ref (aMo 3), .ref (aMo 4), .ref (aMo 5), .ref (aMo 6), .ref (aMo 7), .ref (aMo 8), .ref (aMo 9), .ref (aMo 10), .ref (aMo 11), .ref (aMo 12), .ref (aMo 13), .ref (aMo 14), .ref (aMo 15), .ref (aMo 16), .int (zI mo_size), .int (zI mo_runs), .ref (aMo 19), .ref (aMo 20), .ref (aMo 21), .int (zI mo_found), .int (zI mo_counted), .int (zI mo_isParted), .ref (aMo 25), .ref (aMo 26), .ref (aMo 27), .ref (aMo 28), .ref (aMo 29), .int (zI mo_maybes), .int (zI mo_days), .int (zI mo_over2), .int (zI mo_longer), .ref (aMo 34)])), ((aMo 1), .inl (ca 1, 80, .inl (zA mo_tape)))] (oiX11_isDigit Ro) (oX11_isDigit ca aMo mo_tape mo_taped mo_size mo_runs mo_found mo_counted mo_isParted mo_maybes mo_days mo_over2 mo_longer Ro) := by
  refine ctr_of (lv := [(0, .ref (aMo 0)), (1, .int (zI v1)), (2, .int (zI v2))]) (by decide +kernel) (Nat.le_of_ble_eq_true rfl) rfl (fun Γ hl0 C E hnm => ?_)
  have H31 : fX11_isDigit_31 = some Ro → Zd D Γ 0 0 [((aMo 0), .inr (11, [.ref (aMo 1), .int (zI mo_taped), .ref (aMo 3), .ref (aMo 4), .ref (aMo 5), .ref (aMo 6), .ref (aMo 7), .ref (aMo 8), .ref (aMo 9), .ref (aMo 10), .ref (aMo 11), .ref (aMo 12), .ref (aMo 13), .ref (aMo 14), .ref (aMo 15), .ref (aMo 16), .int (zI mo_size), .int (zI mo_runs), .ref (aMo 19), .ref (aMo 20), .ref (aMo 21), .int (zI mo_found), .int (zI mo_counted), .int (zI mo_isParted), .ref (aMo 25), .ref (aMo 26), .ref (aMo 27), .ref (aMo 28), .ref (aMo 29), .int (zI mo_maybes), .int (zI mo_days), .int (zI mo_over2), .int (zI mo_longer), .ref (aMo 34)])), ((aMo 1), .inl (ca 1, 80, .inl (zA mo_tape)))] 31 [] [] := by
    intro  hf
    unfold fX11_isDigit_31 at hf
    refine g_iconst (pc := 31) C dX11_isDigit_31 ?_
    exact g_zret (pc := 32) C hf E (by decide) rfl (fun _ => 0) [0, 1] (by decide) rfl rfl (Nat.le_refl _) (Nat.le_refl _) dX11_isDigit_32
  unfold fX11_isDigit at hf
  refine g_iload_n (pc := 0) C 1 dX11_isDigit_0 rfl rfl ?_
  refine g_iload_n (pc := 1) C 2 dX11_isDigit_1 rfl rfl ?_
  refine g_icmp_ge (pc := 2) C (tgt := 31) dX11_isDigit_2 (by decide) hf (fun hf => ?_) (fun hf => ?_)
  · refine g_sub [0, 1] [] (by decide) rfl rfl rfl ?_
    exact H31  hf
  · refine g_aload_n (pc := 5) C 0 dX11_isDigit_5 rfl rfl ?_
    refine g_get (pc := 6) C zf_X11_7 0 rfl rfl dX11_isDigit_6 ?_
    refine g_iload_n (pc := 9) C 1 dX11_isDigit_9 rfl rfl ?_
    refine g_bald (pc := 10) C (N := 80) 1 rfl rfl (Nat.le_of_ble_eq_true rfl) dX11_isDigit_10 hf (fun hf => ?_)
    refine g_bipush (pc := 11) C dX11_isDigit_11 (by decide) ?_
    refine g_icmp_ltr (pc := 13) C (tgt := 31) dX11_isDigit_13 (by decide) (by decide) hf (fun hf => ?_) (fun hf => ?_)
    · refine g_sub [0, 1] [] (by decide) rfl rfl rfl ?_
      exact H31  hf
    · refine g_aload_n (pc := 16) C 0 dX11_isDigit_16 rfl rfl ?_
      refine g_get (pc := 17) C zf_X11_7 0 rfl rfl dX11_isDigit_17 ?_
      refine g_iload_n (pc := 20) C 1 dX11_isDigit_20 rfl rfl ?_
      refine g_bald (pc := 21) C (N := 80) 1 rfl rfl (Nat.le_of_ble_eq_true rfl) dX11_isDigit_21 hf (fun hf => ?_)
      refine g_bipush (pc := 22) C dX11_isDigit_22 (by decide) ?_
      refine g_icmp_gtr (pc := 24) C (tgt := 31) dX11_isDigit_24 (by decide) (by decide) hf (fun hf => ?_) (fun hf => ?_)
      · refine g_sub [0, 1] [] (by decide) rfl rfl rfl ?_
        exact H31  hf
      · refine g_iconst (pc := 27) C dX11_isDigit_27 ?_
        refine g_goto (pc := 28) C (tgt := 32) dX11_isDigit_28 (by decide) ?_
        exact g_zret (pc := 32) C hf E (by decide) rfl (fun _ => 0) [0, 1] (by decide) rfl rfl (Nat.le_refl _) (Nat.le_refl _) dX11_isDigit_32
def oX11_letterOf (ca : Nat → ClassId)   (Ro : Int) : (Nat → Nat) → va_W := fun _ => []
def oiX11_letterOf (Ro : Int) : Option Value := (some (.int (zI Ro)))
set_option maxRecDepth 100000 in
theorem kX11_letterOf (l : Launch) (D : va_G) (ca : Nat → ClassId)   (v0 : Int) (Ro : Int)
    (hf : fX11_letterOf v0 = some Ro) : Zc l D ca yX11_letterOf cX11_letterOf 1 (some .int) { frames := 0, cells := 0, slots := 0, locals := 0 } [.int (zI v0)] [] (oiX11_letterOf Ro) (oX11_letterOf ca Ro) := by
  refine ctr_of (lv := [(0, .int (zI v0))]) (by decide +kernel) (Nat.le_of_ble_eq_true rfl) rfl (fun Γ hl0 C E hnm => ?_)
  have H139 : fX11_letterOf_139 = some Ro → Zd D Γ 0 0 [] 139 [] [] := by
    intro  hf
    unfold fX11_letterOf_139 at hf
    refine g_iconst (pc := 139) C dX11_letterOf_139 ?_
    exact g_iret (pc := 140) C hf E rfl (fun _ => 0) [] (by decide) rfl rfl (Nat.le_refl _) (Nat.le_refl _) dX11_letterOf_140
  unfold fX11_letterOf at hf
  refine g_iload_n (pc := 0) C 0 dX11_letterOf_0 rfl rfl ?_
  obtain ⟨hx_1, hf⟩ := zck hf
  by_cases hc_1_0 : v0 = 98
  · rw [if_pos hc_1_0] at hf
    refine g_tabIn (pc := 1) C (tgt := 114) dX11_letterOf_1 hx_1 hc_1_0 (by decide) (by decide) rfl (by decide) ?_
    refine g_iconst (pc := 114) C dX11_letterOf_114 ?_
    exact g_iret (pc := 115) C hf E rfl (fun _ => 0) [] (by decide) rfl rfl (Nat.le_refl _) (Nat.le_refl _) dX11_letterOf_115
  · rw [if_neg hc_1_0] at hf
    by_cases hc_1_1 : v0 = 99
    · rw [if_pos hc_1_1] at hf
      refine g_tabIn (pc := 1) C (tgt := 112) dX11_letterOf_1 hx_1 hc_1_1 (by decide) (by decide) rfl (by decide) ?_
      refine g_iconst (pc := 112) C dX11_letterOf_112 ?_
      exact g_iret (pc := 113) C hf E rfl (fun _ => 0) [] (by decide) rfl rfl (Nat.le_refl _) (Nat.le_refl _) dX11_letterOf_113
    · rw [if_neg hc_1_1] at hf
      by_cases hc_1_2 : v0 = 100
      · rw [if_pos hc_1_2] at hf
        refine g_tabIn (pc := 1) C (tgt := 120) dX11_letterOf_1 hx_1 hc_1_2 (by decide) (by decide) rfl (by decide) ?_
        refine g_iconst (pc := 120) C dX11_letterOf_120 ?_
        exact g_iret (pc := 121) C hf E rfl (fun _ => 0) [] (by decide) rfl rfl (Nat.le_refl _) (Nat.le_refl _) dX11_letterOf_121
      · rw [if_neg hc_1_2] at hf
        by_cases hc_1_3 : v0 = 101
        · rw [if_pos hc_1_3] at hf
          refine g_tabIn (pc := 1) C (tgt := 122) dX11_letterOf_1 hx_1 hc_1_3 (by decide) (by decide) rfl (by decide) ?_
          refine g_iconst (pc := 122) C dX11_letterOf_122 ?_
          exact g_iret (pc := 123) C hf E rfl (fun _ => 0) [] (by decide) rfl rfl (Nat.le_refl _) (Nat.le_refl _) dX11_letterOf_123
        · rw [if_neg hc_1_3] at hf
          by_cases hc_1_4 : v0 = 102
          · rw [if_pos hc_1_4] at hf
            refine g_tabIn (pc := 1) C (tgt := 139) dX11_letterOf_1 hx_1 hc_1_4 (by decide) (by decide) rfl (by decide) ?_
            refine g_sub [] [] (by decide) rfl rfl rfl ?_
            exact H139  hf
          · rw [if_neg hc_1_4] at hf
            by_cases hc_1_5 : v0 = 103
            · rw [if_pos hc_1_5] at hf
              refine g_tabIn (pc := 1) C (tgt := 139) dX11_letterOf_1 hx_1 hc_1_5 (by decide) (by decide) rfl (by decide) ?_
              refine g_sub [] [] (by decide) rfl rfl rfl ?_
              exact H139  hf
            · rw [if_neg hc_1_5] at hf
              by_cases hc_1_6 : v0 = 104
              · rw [if_pos hc_1_6] at hf
                refine g_tabIn (pc := 1) C (tgt := 139) dX11_letterOf_1 hx_1 hc_1_6 (by decide) (by decide) rfl (by decide) ?_
                refine g_sub [] [] (by decide) rfl rfl rfl ?_
                exact H139  hf
              · rw [if_neg hc_1_6] at hf
                by_cases hc_1_7 : v0 = 105
                · rw [if_pos hc_1_7] at hf
                  refine g_tabIn (pc := 1) C (tgt := 139) dX11_letterOf_1 hx_1 hc_1_7 (by decide) (by decide) rfl (by decide) ?_
                  refine g_sub [] [] (by decide) rfl rfl rfl ?_
                  exact H139  hf
                · rw [if_neg hc_1_7] at hf
                  by_cases hc_1_8 : v0 = 106
                  · rw [if_pos hc_1_8] at hf
                    refine g_tabIn (pc := 1) C (tgt := 139) dX11_letterOf_1 hx_1 hc_1_8 (by decide) (by decide) rfl (by decide) ?_
                    refine g_sub [] [] (by decide) rfl rfl rfl ?_
                    exact H139  hf
                  · rw [if_neg hc_1_8] at hf
                    by_cases hc_1_9 : v0 = 107
                    · rw [if_pos hc_1_9] at hf
                      refine g_tabIn (pc := 1) C (tgt := 139) dX11_letterOf_1 hx_1 hc_1_9 (by decide) (by decide) rfl (by decide) ?_
                      refine g_sub [] [] (by decide) rfl rfl rfl ?_
                      exact H139  hf
                    · rw [if_neg hc_1_9] at hf
                      by_cases hc_1_10 : v0 = 108
                      · rw [if_pos hc_1_10] at hf
                        refine g_tabIn (pc := 1) C (tgt := 139) dX11_letterOf_1 hx_1 hc_1_10 (by decide) (by decide) rfl (by decide) ?_
                        refine g_sub [] [] (by decide) rfl rfl rfl ?_
                        exact H139  hf
                      · rw [if_neg hc_1_10] at hf
                        by_cases hc_1_11 : v0 = 109
                        · rw [if_pos hc_1_11] at hf
                          refine g_tabIn (pc := 1) C (tgt := 139) dX11_letterOf_1 hx_1 hc_1_11 (by decide) (by decide) rfl (by decide) ?_
                          refine g_sub [] [] (by decide) rfl rfl rfl ?_
                          exact H139  hf
                        · rw [if_neg hc_1_11] at hf
                          by_cases hc_1_12 : v0 = 110
                          · rw [if_pos hc_1_12] at hf
                            refine g_tabIn (pc := 1) C (tgt := 139) dX11_letterOf_1 hx_1 hc_1_12 (by decide) (by decide) rfl (by decide) ?_
                            refine g_sub [] [] (by decide) rfl rfl rfl ?_
                            exact H139  hf
                          · rw [if_neg hc_1_12] at hf
                            by_cases hc_1_13 : v0 = 111
                            · rw [if_pos hc_1_13] at hf
                              refine g_tabIn (pc := 1) C (tgt := 139) dX11_letterOf_1 hx_1 hc_1_13 (by decide) (by decide) rfl (by decide) ?_
                              refine g_sub [] [] (by decide) rfl rfl rfl ?_
                              exact H139  hf
                            · rw [if_neg hc_1_13] at hf
                              by_cases hc_1_14 : v0 = 112
                              · rw [if_pos hc_1_14] at hf
                                refine g_tabIn (pc := 1) C (tgt := 139) dX11_letterOf_1 hx_1 hc_1_14 (by decide) (by decide) rfl (by decide) ?_
                                refine g_sub [] [] (by decide) rfl rfl rfl ?_
                                exact H139  hf
                              · rw [if_neg hc_1_14] at hf
                                by_cases hc_1_15 : v0 = 113
                                · rw [if_pos hc_1_15] at hf
                                  refine g_tabIn (pc := 1) C (tgt := 130) dX11_letterOf_1 hx_1 hc_1_15 (by decide) (by decide) rfl (by decide) ?_
                                  refine g_bipush (pc := 130) C dX11_letterOf_130 (by decide) ?_
                                  exact g_iret (pc := 132) C hf E rfl (fun _ => 0) [] (by decide) rfl rfl (Nat.le_refl _) (Nat.le_refl _) dX11_letterOf_132
                                · rw [if_neg hc_1_15] at hf
                                  by_cases hc_1_16 : v0 = 114
                                  · rw [if_pos hc_1_16] at hf
                                    refine g_tabIn (pc := 1) C (tgt := 127) dX11_letterOf_1 hx_1 hc_1_16 (by decide) (by decide) rfl (by decide) ?_
                                    refine g_bipush (pc := 127) C dX11_letterOf_127 (by decide) ?_
                                    exact g_iret (pc := 129) C hf E rfl (fun _ => 0) [] (by decide) rfl rfl (Nat.le_refl _) (Nat.le_refl _) dX11_letterOf_129
                                  · rw [if_neg hc_1_16] at hf
                                    by_cases hc_1_17 : v0 = 115
                                    · rw [if_pos hc_1_17] at hf
                                      refine g_tabIn (pc := 1) C (tgt := 116) dX11_letterOf_1 hx_1 hc_1_17 (by decide) (by decide) rfl (by decide) ?_
                                      refine g_iconst (pc := 116) C dX11_letterOf_116 ?_
                                      exact g_iret (pc := 117) C hf E rfl (fun _ => 0) [] (by decide) rfl rfl (Nat.le_refl _) (Nat.le_refl _) dX11_letterOf_117
                                    · rw [if_neg hc_1_17] at hf
                                      by_cases hc_1_18 : v0 = 116
                                      · rw [if_pos hc_1_18] at hf
                                        refine g_tabIn (pc := 1) C (tgt := 118) dX11_letterOf_1 hx_1 hc_1_18 (by decide) (by decide) rfl (by decide) ?_
                                        refine g_iconst (pc := 118) C dX11_letterOf_118 ?_
                                        exact g_iret (pc := 119) C hf E rfl (fun _ => 0) [] (by decide) rfl rfl (Nat.le_refl _) (Nat.le_refl _) dX11_letterOf_119
                                      · rw [if_neg hc_1_18] at hf
                                        by_cases hc_1_19 : v0 = 117
                                        · rw [if_pos hc_1_19] at hf
                                          refine g_tabIn (pc := 1) C (tgt := 139) dX11_letterOf_1 hx_1 hc_1_19 (by decide) (by decide) rfl (by decide) ?_
                                          refine g_sub [] [] (by decide) rfl rfl rfl ?_
                                          exact H139  hf
                                        · rw [if_neg hc_1_19] at hf
                                          by_cases hc_1_20 : v0 = 118
                                          · rw [if_pos hc_1_20] at hf
                                            refine g_tabIn (pc := 1) C (tgt := 139) dX11_letterOf_1 hx_1 hc_1_20 (by decide) (by decide) rfl (by decide) ?_
                                            refine g_sub [] [] (by decide) rfl rfl rfl ?_
                                            exact H139  hf
                                          · rw [if_neg hc_1_20] at hf
                                            by_cases hc_1_21 : v0 = 119
                                            · rw [if_pos hc_1_21] at hf
                                              refine g_tabIn (pc := 1) C (tgt := 136) dX11_letterOf_1 hx_1 hc_1_21 (by decide) (by decide) rfl (by decide) ?_
                                              refine g_bipush (pc := 136) C dX11_letterOf_136 (by decide) ?_
                                              exact g_iret (pc := 138) C hf E rfl (fun _ => 0) [] (by decide) rfl rfl (Nat.le_refl _) (Nat.le_refl _) dX11_letterOf_138
                                            · rw [if_neg hc_1_21] at hf
                                              by_cases hc_1_22 : v0 = 120
                                              · rw [if_pos hc_1_22] at hf
                                                refine g_tabIn (pc := 1) C (tgt := 124) dX11_letterOf_1 hx_1 hc_1_22 (by decide) (by decide) rfl (by decide) ?_
                                                refine g_bipush (pc := 124) C dX11_letterOf_124 (by decide) ?_
                                                exact g_iret (pc := 126) C hf E rfl (fun _ => 0) [] (by decide) rfl rfl (Nat.le_refl _) (Nat.le_refl _) dX11_letterOf_126
                                              · rw [if_neg hc_1_22] at hf
                                                by_cases hc_1_23 : v0 = 121
                                                · rw [if_pos hc_1_23] at hf
                                                  refine g_tabIn (pc := 1) C (tgt := 133) dX11_letterOf_1 hx_1 hc_1_23 (by decide) (by decide) rfl (by decide) ?_
                                                  refine g_bipush (pc := 133) C dX11_letterOf_133 (by decide) ?_
                                                  exact g_iret (pc := 135) C hf E rfl (fun _ => 0) [] (by decide) rfl rfl (Nat.le_refl _) (Nat.le_refl _) dX11_letterOf_135
                                                · rw [if_neg hc_1_23] at hf
                                                  refine g_tabOut (pc := 1) C (tgt := 139) dX11_letterOf_1 hx_1 (by omega) (by decide) ?_
                                                  refine g_sub [] [] (by decide) rfl rfl rfl ?_
                                                  exact H139  hf
def oX11_parse (ca : Nat → ClassId) (aMo : Nat → Nat) (mo_tape : Nat → Int) (mo_taped : Int) (mo_size : Int) (mo_runs : Int) (mo_found : Int) (mo_counted : Int) (mo_isParted : Int) (mo_maybes : Int) (mo_days : Int) (mo_over2 : Int) (mo_longer : Int) (Ro : Int × (Nat → Int)) : (Nat → Nat) → va_W := fun _ => [((aMo 0), .inr (11, [.ref (aMo 1), .int (zI mo_taped), .ref (aMo 3), .ref (aMo 4), .ref (aMo 5), .ref (aMo 6), .ref (aMo 7), .ref (aMo 8), .ref (aMo 9), .ref (aMo 10), .ref (aMo 11), .ref (aMo 12), .ref (aMo 13), .ref (aMo 14), .ref (aMo 15), .ref (aMo 16), .int (zI mo_size), .int (zI mo_runs), .ref (aMo 19), .ref (aMo 20), .ref (aMo 21), .int (zI mo_found), .int (zI mo_counted), .int (zI mo_isParted), .ref (aMo 25), .ref (aMo 26), .ref (aMo 27), .ref (aMo 28), .ref (aMo 29), .int (zI mo_maybes), .int (zI mo_days), .int (zI mo_over2), .int (zI mo_longer), .ref (aMo 34)])), ((aMo 1), .inl (ca 1, 80, .inl (zA mo_tape))), ((aMo 4), .inl (ca 0, 11, .inl (zA (Ro.2))))]
def oiX11_parse (Ro : Int × (Nat → Int)) : Option Value := (some (.int (zI Ro.1)))
set_option maxRecDepth 100000 in
theorem kX11_parse (l : Launch) (D : va_G) (ca : Nat → ClassId) (aMo : Nat → Nat) (mo_tape : Nat → Int) (mo_taped : Int) (mo_said : Nat → Int) (mo_size : Int) (mo_runs : Int) (mo_found : Int) (mo_counted : Int) (mo_isParted : Int) (mo_maybes : Int) (mo_days : Int) (mo_over2 : Int) (mo_longer : Int) (v1 : Int) (Ro : Int × (Nat → Int))
    (hf : fX11_parse v1 mo_tape mo_said = some Ro) : Zc l D ca yX11_parse cX11_parse 6 (some .int) { frames := 1, cells := 0, slots := 0, locals := 22 } [.ref (aMo 0), .int (zI v1)] [((aMo 0), .inr (11, [.ref (aMo 1), .int (zI mo_taped), .ref (aMo 3), .ref (aMo 4), .ref (aMo 5), .ref (aMo 6), .ref (aMo 7), .ref (aMo 8), .ref (aMo 9), .ref (aMo 10), .ref (aMo 11), .ref (aMo 12), .ref (aMo 13), .ref (aMo 14), .ref (aMo 15), .ref (aMo 16), .int (zI mo_size), .int (zI mo_runs), .ref (aMo 19), .ref (aMo 20), .ref (aMo 21), .int (zI mo_found), .int (zI mo_counted), .int (zI mo_isParted), .ref (aMo 25), .ref (aMo 26), .ref (aMo 27), .ref (aMo 28), .ref (aMo 29), .int (zI mo_maybes), .int (zI mo_days), .int (zI mo_over2), .int (zI mo_longer), .ref (aMo 34)])), ((aMo 1), .inl (ca 1, 80, .inl (zA mo_tape))), ((aMo 4), .inl (ca 0, 11, .inl (zA mo_said)))] (oiX11_parse Ro) (oX11_parse ca aMo mo_tape mo_taped mo_size mo_runs mo_found mo_counted mo_isParted mo_maybes mo_days mo_over2 mo_longer Ro) := by
  refine ctr_of (lv := [(0, .ref (aMo 0)), (1, .int (zI v1))]) (by decide +kernel) (Nat.le_of_ble_eq_true rfl) rfl (fun Γ hl0 C E hnm => ?_)
  have H2 : ∀  (n2 : Nat) (v2 : Int) (mo_said : Nat → Int), zlp (fX11_parse_2 v1 mo_tape) n2 (v2, mo_said) = some Ro → Zd D Γ 0 0 [((aMo 0), .inr (11, [.ref (aMo 1), .int (zI mo_taped), .ref (aMo 3), .ref (aMo 4), .ref (aMo 5), .ref (aMo 6), .ref (aMo 7), .ref (aMo 8), .ref (aMo 9), .ref (aMo 10), .ref (aMo 11), .ref (aMo 12), .ref (aMo 13), .ref (aMo 14), .ref (aMo 15), .ref (aMo 16), .int (zI mo_size), .int (zI mo_runs), .ref (aMo 19), .ref (aMo 20), .ref (aMo 21), .int (zI mo_found), .int (zI mo_counted), .int (zI mo_isParted), .ref (aMo 25), .ref (aMo 26), .ref (aMo 27), .ref (aMo 28), .ref (aMo 29), .int (zI mo_maybes), .int (zI mo_days), .int (zI mo_over2), .int (zI mo_longer), .ref (aMo 34)])), ((aMo 1), .inl (ca 1, 80, .inl (zA mo_tape))), ((aMo 4), .inl (ca 0, 11, .inl (zA mo_said)))] 2 [(0, .ref (aMo 0)), (1, .int (zI v1)), (2, .int (zI v2))] [] := by
    intro n2
    induction n2 with
    | zero =>
      intro v2 mo_said hf
      exact zno hf
    | succ n2 ih2 =>
      have H56 : ∀ (v3 : Int) (v4 : Int) (mo_said : Nat → Int) (n56 : Nat) (v2 : Int) (v5 : Int), zlp (fX11_parse_56 (zlp (fX11_parse_2 v1 mo_tape) n2) v1 v3 v4 mo_tape mo_said) n56 (v2, v5) = some Ro → Zd D Γ 0 0 [((aMo 0), .inr (11, [.ref (aMo 1), .int (zI mo_taped), .ref (aMo 3), .ref (aMo 4), .ref (aMo 5), .ref (aMo 6), .ref (aMo 7), .ref (aMo 8), .ref (aMo 9), .ref (aMo 10), .ref (aMo 11), .ref (aMo 12), .ref (aMo 13), .ref (aMo 14), .ref (aMo 15), .ref (aMo 16), .int (zI mo_size), .int (zI mo_runs), .ref (aMo 19), .ref (aMo 20), .ref (aMo 21), .int (zI mo_found), .int (zI mo_counted), .int (zI mo_isParted), .ref (aMo 25), .ref (aMo 26), .ref (aMo 27), .ref (aMo 28), .ref (aMo 29), .int (zI mo_maybes), .int (zI mo_days), .int (zI mo_over2), .int (zI mo_longer), .ref (aMo 34)])), ((aMo 1), .inl (ca 1, 80, .inl (zA mo_tape))), ((aMo 4), .inl (ca 0, 11, .inl (zA mo_said)))] 56 [(0, .ref (aMo 0)), (1, .int (zI v1)), (2, .int (zI v2)), (3, .int (zI v3)), (4, .int (zI v4)), (5, .int (zI v5))] [] := by
        intro v3 v4 mo_said
        intro n56
        induction n56 with
        | zero =>
          intro v2 v5 hf
          exact zno hf
        | succ n56 ih56 =>
          intro v2 v5 hf
          rw [zlp_s] at hf
          unfold fX11_parse_56 at hf
          dsimp only at hf
          refine g_aload_n (pc := 56) C 0 dX11_parse_56 rfl rfl ?_
          refine g_iload_n (pc := 57) C 2 dX11_parse_57 rfl rfl ?_
          refine g_iload_n (pc := 58) C 1 dX11_parse_58 rfl rfl ?_
          obtain ⟨r_59, hc_59, hf⟩ := Option.bind_eq_some_iff.mp hf
          refine g_callV (pc := 59) C hl0 (wr := [((aMo 4), .inl (ca 0, 11, .inl (zA mo_said)))]) (k' := 0) (n' := 0) (ws' := fun _ => [((aMo 4), .inl (ca 0, 11, .inl (zA mo_said))), ((aMo 0), .inr (11, [.ref (aMo 1), .int (zI mo_taped), .ref (aMo 3), .ref (aMo 4), .ref (aMo 5), .ref (aMo 6), .ref (aMo 7), .ref (aMo 8), .ref (aMo 9), .ref (aMo 10), .ref (aMo 11), .ref (aMo 12), .ref (aMo 13), .ref (aMo 14), .ref (aMo 15), .ref (aMo 16), .int (zI mo_size), .int (zI mo_runs), .ref (aMo 19), .ref (aMo 20), .ref (aMo 21), .int (zI mo_found), .int (zI mo_counted), .int (zI mo_isParted), .ref (aMo 25), .ref (aMo 26), .ref (aMo 27), .ref (aMo 28), .ref (aMo 29), .int (zI mo_maybes), .int (zI mo_days), .int (zI mo_over2), .int (zI mo_longer), .ref (aMo 34)])), ((aMo 1), .inl (ca 1, 80, .inl (zA mo_tape)))]) (st' := [.int (zI r_59)]) (kX11_isDigit l D ca aMo mo_tape mo_taped mo_size mo_runs mo_found mo_counted mo_isParted mo_maybes mo_days mo_over2 mo_longer v2 v1 r_59 hc_59) wml_RX11_100 wim_X11_isDigit wse_X11_isDigit win_RX11 wco_X11_isDigit (nA := 2) rfl (by decide +kernel)  ⟨(Nat.le_of_ble_eq_true rfl), (Nat.le_of_ble_eq_true rfl)⟩ (Nat.le_refl _) (Nat.le_refl _) rfl (Nat.le_of_ble_eq_true rfl) dX11_parse_59 0 11 rfl rfl rfl [0, 1] [2] rfl rfl rfl (by decide) (by decide) (by decide) rfl rfl (fun _ => rfl) rfl (fun _ => ?_)
          refine g_if_eq (pc := 62) C (tgt := 103) dX11_parse_62 (by decide) hf (fun hf => ?_) (fun hf => ?_)
          · refine g_iload_n (pc := 103) C 3 dX11_parse_103 rfl rfl ?_
            refine g_iload (pc := 104) C 5 dX11_parse_104 rfl ?_
            obtain ⟨r_106, hc_106, hf⟩ := Option.bind_eq_some_iff.mp hf
            refine g_callS (pc := 106) C hl0 (wr := [((aMo 4), .inl (ca 0, 11, .inl (zA mo_said))), ((aMo 0), .inr (11, [.ref (aMo 1), .int (zI mo_taped), .ref (aMo 3), .ref (aMo 4), .ref (aMo 5), .ref (aMo 6), .ref (aMo 7), .ref (aMo 8), .ref (aMo 9), .ref (aMo 10), .ref (aMo 11), .ref (aMo 12), .ref (aMo 13), .ref (aMo 14), .ref (aMo 15), .ref (aMo 16), .int (zI mo_size), .int (zI mo_runs), .ref (aMo 19), .ref (aMo 20), .ref (aMo 21), .int (zI mo_found), .int (zI mo_counted), .int (zI mo_isParted), .ref (aMo 25), .ref (aMo 26), .ref (aMo 27), .ref (aMo 28), .ref (aMo 29), .int (zI mo_maybes), .int (zI mo_days), .int (zI mo_over2), .int (zI mo_longer), .ref (aMo 34)])), ((aMo 1), .inl (ca 1, 80, .inl (zA mo_tape)))]) (k' := 0) (n' := 0) (ws' := fun _ => [((aMo 4), .inl (ca 0, 11, .inl (zA mo_said))), ((aMo 0), .inr (11, [.ref (aMo 1), .int (zI mo_taped), .ref (aMo 3), .ref (aMo 4), .ref (aMo 5), .ref (aMo 6), .ref (aMo 7), .ref (aMo 8), .ref (aMo 9), .ref (aMo 10), .ref (aMo 11), .ref (aMo 12), .ref (aMo 13), .ref (aMo 14), .ref (aMo 15), .ref (aMo 16), .int (zI mo_size), .int (zI mo_runs), .ref (aMo 19), .ref (aMo 20), .ref (aMo 21), .int (zI mo_found), .int (zI mo_counted), .int (zI mo_isParted), .ref (aMo 25), .ref (aMo 26), .ref (aMo 27), .ref (aMo 28), .ref (aMo 29), .int (zI mo_maybes), .int (zI mo_days), .int (zI mo_over2), .int (zI mo_longer), .ref (aMo 34)])), ((aMo 1), .inl (ca 1, 80, .inl (zA mo_tape)))]) (st' := [.int (zI r_106)]) (kX11_canBe l D ca v3 v5 r_106 hc_106) wml_RX11_104 wst_X11_canBe win_RX11 wco_X11_canBe (nA := 2) rfl (by decide +kernel)  ⟨(Nat.le_of_ble_eq_true rfl), (Nat.le_of_ble_eq_true rfl)⟩ (Nat.le_refl _) (Nat.le_refl _) rfl (Nat.le_of_ble_eq_true rfl) dX11_parse_106 [] [0, 1, 2] rfl rfl rfl (by decide) (by decide) (by decide) rfl rfl (fun _ => rfl) rfl (fun _ => ?_)
            refine g_if_ne (pc := 109) C (tgt := 119) dX11_parse_109 (by decide) hf (fun hf => ?_) (fun hf => ?_)
            · refine g_aload_n (pc := 119) C 0 dX11_parse_119 rfl rfl ?_
              refine g_get (pc := 120) C zf_X11_17 1 rfl rfl dX11_parse_120 ?_
              refine g_iload_n (pc := 123) C 3 dX11_parse_123 rfl rfl ?_
              refine g_iload (pc := 124) C 5 dX11_parse_124 rfl ?_
              refine g_iast (pc := 126) C (N := 11) (ws' := [((aMo 4), .inl (ca 0, 11, .inl (zA (zU mo_said v3.toNat v5)))), ((aMo 0), .inr (11, [.ref (aMo 1), .int (zI mo_taped), .ref (aMo 3), .ref (aMo 4), .ref (aMo 5), .ref (aMo 6), .ref (aMo 7), .ref (aMo 8), .ref (aMo 9), .ref (aMo 10), .ref (aMo 11), .ref (aMo 12), .ref (aMo 13), .ref (aMo 14), .ref (aMo 15), .ref (aMo 16), .int (zI mo_size), .int (zI mo_runs), .ref (aMo 19), .ref (aMo 20), .ref (aMo 21), .int (zI mo_found), .int (zI mo_counted), .int (zI mo_isParted), .ref (aMo 25), .ref (aMo 26), .ref (aMo 27), .ref (aMo 28), .ref (aMo 29), .int (zI mo_maybes), .int (zI mo_days), .int (zI mo_over2), .int (zI mo_longer), .ref (aMo 34)])), ((aMo 1), .inl (ca 1, 80, .inl (zA mo_tape)))]) 0 rfl rfl (Nat.le_of_ble_eq_true rfl) rfl dX11_parse_126 hf (fun hf => ?_)
              refine g_iload_n (pc := 127) C 2 dX11_parse_127 rfl rfl ?_
              refine g_iload_n (pc := 128) C 1 dX11_parse_128 rfl rfl ?_
              refine g_icmp_ne (pc := 129) C (tgt := 134) dX11_parse_129 (by decide) hf (fun hf => ?_) (fun hf => ?_)
              · refine g_aload_n (pc := 134) C 0 dX11_parse_134 rfl rfl ?_
                refine g_get (pc := 135) C zf_X11_7 1 rfl rfl dX11_parse_135 ?_
                refine g_iload_n (pc := 138) C 2 dX11_parse_138 rfl rfl ?_
                refine g_bald (pc := 139) C (N := 80) 2 rfl rfl (Nat.le_of_ble_eq_true rfl) dX11_parse_139 hf (fun hf => ?_)
                refine g_bipush (pc := 140) C dX11_parse_140 (by decide) ?_
                refine g_icmp_eqr (pc := 142) C (tgt := 151) dX11_parse_142 (by decide) (by decide) hf (fun hf => ?_) (fun hf => ?_)
                · refine g_iload_n (pc := 151) C 2 dX11_parse_151 rfl rfl ?_
                  refine g_iconst (pc := 152) C dX11_parse_152 ?_
                  refine g_iadd (pc := 153) C dX11_parse_153 ?_
                  refine g_istore_n (pc := 154) C (lv' := [(2, .int (zI (v2 + 1))), (0, .ref (aMo 0)), (1, .int (zI v1)), (3, .int (zI v3)), (4, .int (zI v4)), (5, .int (zI v5))]) dX11_parse_154 rfl (Nat.le_of_ble_eq_true rfl) rfl ?_
                  refine g_goto (pc := 155) C (tgt := 2) dX11_parse_155 (by decide) ?_
                  refine g_sub [1, 2, 0] [1, 2, 0] (by decide) rfl rfl rfl ?_
                  exact ih2 _ _ hf
                · refine g_sipush (pc := 145) C dX11_parse_145 (by decide) ?_
                  refine g_iload_n (pc := 148) C 2 dX11_parse_148 rfl rfl ?_
                  refine g_iadd (pc := 149) C dX11_parse_149 ?_
                  exact g_iret (pc := 150) C hf E rfl (fun _ => 0) [1, 2, 0] (by decide) rfl rfl (Nat.le_refl _) (Nat.le_refl _) dX11_parse_150
              · refine g_iconst (pc := 132) C dX11_parse_132 ?_
                exact g_iret (pc := 133) C hf E rfl (fun _ => 0) [1, 2, 0] (by decide) rfl rfl (Nat.le_refl _) (Nat.le_refl _) dX11_parse_133
            · refine g_sipush (pc := 112) C dX11_parse_112 (by decide) ?_
              refine g_iload (pc := 115) C 4 dX11_parse_115 rfl ?_
              refine g_iadd (pc := 117) C dX11_parse_117 ?_
              exact g_iret (pc := 118) C hf E rfl (fun _ => 0) [1, 2, 0] (by decide) rfl rfl (Nat.le_refl _) (Nat.le_refl _) dX11_parse_118
          · refine g_iload_n (pc := 65) C 2 dX11_parse_65 rfl rfl ?_
            refine g_iload (pc := 66) C 4 dX11_parse_66 rfl ?_
            refine g_iconst (pc := 68) C dX11_parse_68 ?_
            refine g_iadd (pc := 69) C dX11_parse_69 ?_
            refine g_icmp_ne (pc := 70) C (tgt := 79) dX11_parse_70 (by decide) hf (fun hf => ?_) (fun hf => ?_)
            · refine g_bipush (pc := 79) C dX11_parse_79 (by decide) ?_
              refine g_iload (pc := 81) C 5 dX11_parse_81 rfl ?_
              refine g_imul (pc := 83) C dX11_parse_83 ?_
              refine g_aload_n (pc := 84) C 0 dX11_parse_84 rfl rfl ?_
              refine g_get (pc := 85) C zf_X11_7 1 rfl rfl dX11_parse_85 ?_
              refine g_iload_n (pc := 88) C 2 dX11_parse_88 rfl rfl ?_
              refine g_bald (pc := 89) C (N := 80) 2 rfl rfl (Nat.le_of_ble_eq_true rfl) dX11_parse_89 hf (fun hf => ?_)
              refine g_iadd (pc := 90) C dX11_parse_90 ?_
              refine g_bipush (pc := 91) C dX11_parse_91 (by decide) ?_
              refine g_isub (pc := 93) C dX11_parse_93 ?_
              refine g_istore (pc := 94) C (lv' := [(5, .int (zI (((10 * v5) + (mo_tape v2.toNat)) - 48))), (0, .ref (aMo 0)), (1, .int (zI v1)), (2, .int (zI v2)), (3, .int (zI v3)), (4, .int (zI v4))]) dX11_parse_94 (Nat.le_of_ble_eq_true rfl) rfl ?_
              refine g_iload_n (pc := 96) C 3 dX11_parse_96 rfl rfl ?_
              refine g_iconst (pc := 97) C dX11_parse_97 ?_
              refine g_iadd (pc := 98) C dX11_parse_98 ?_
              refine g_istore_n (pc := 99) C (lv' := [(2, .int (zI (v2 + 1))), (5, .int (zI (((10 * v5) + (mo_tape v2.toNat)) - 48))), (0, .ref (aMo 0)), (1, .int (zI v1)), (3, .int (zI v3)), (4, .int (zI v4))]) dX11_parse_99 rfl (Nat.le_of_ble_eq_true rfl) rfl ?_
              refine g_goto (pc := 100) C (tgt := 56) dX11_parse_100 (by decide) ?_
              refine g_sub [1, 2, 0] [2, 3, 0, 4, 5, 1] (by decide) rfl rfl rfl ?_
              exact ih56 _ _ hf
            · refine g_sipush (pc := 73) C dX11_parse_73 (by decide) ?_
              refine g_iload_n (pc := 76) C 2 dX11_parse_76 rfl rfl ?_
              refine g_iadd (pc := 77) C dX11_parse_77 ?_
              exact g_iret (pc := 78) C hf E rfl (fun _ => 0) [1, 2, 0] (by decide) rfl rfl (Nat.le_refl _) (Nat.le_refl _) dX11_parse_78
      have H20 : ∀ (v2 : Int) (s0 : Int) (mo_said : Nat → Int), fX11_parse_20 (zlp (fX11_parse_2 v1 mo_tape) n2) v1 v2 s0 mo_tape mo_said = some Ro → Zd D Γ 0 0 [((aMo 0), .inr (11, [.ref (aMo 1), .int (zI mo_taped), .ref (aMo 3), .ref (aMo 4), .ref (aMo 5), .ref (aMo 6), .ref (aMo 7), .ref (aMo 8), .ref (aMo 9), .ref (aMo 10), .ref (aMo 11), .ref (aMo 12), .ref (aMo 13), .ref (aMo 14), .ref (aMo 15), .ref (aMo 16), .int (zI mo_size), .int (zI mo_runs), .ref (aMo 19), .ref (aMo 20), .ref (aMo 21), .int (zI mo_found), .int (zI mo_counted), .int (zI mo_isParted), .ref (aMo 25), .ref (aMo 26), .ref (aMo 27), .ref (aMo 28), .ref (aMo 29), .int (zI mo_maybes), .int (zI mo_days), .int (zI mo_over2), .int (zI mo_longer), .ref (aMo 34)])), ((aMo 1), .inl (ca 1, 80, .inl (zA mo_tape))), ((aMo 4), .inl (ca 0, 11, .inl (zA mo_said)))] 20 [(0, .ref (aMo 0)), (1, .int (zI v1)), (2, .int (zI v2))] [.int (zI s0)] := by
        intro v2 s0 mo_said hf
        unfold fX11_parse_20 at hf
        refine g_istore_n (pc := 20) C (lv' := [(3, .int (zI s0)), (0, .ref (aMo 0)), (1, .int (zI v1)), (2, .int (zI v2))]) dX11_parse_20 rfl (Nat.le_of_ble_eq_true rfl) rfl ?_
        refine g_iload_n (pc := 21) C 0 dX11_parse_21 rfl rfl ?_
        refine g_iconst (pc := 22) C dX11_parse_22 ?_
        refine g_icmp_ner (pc := 23) C (tgt := 31) dX11_parse_23 (by decide) (by decide) hf (fun hf => ?_) (fun hf => ?_)
        · refine g_iload_n (pc := 31) C 3 dX11_parse_31 rfl rfl ?_
          refine g_iconst (pc := 32) C dX11_parse_32 ?_
          refine g_iadd (pc := 33) C dX11_parse_33 ?_
          refine g_istore_n (pc := 34) C (lv' := [(2, .int (zI (v2 + 1))), (3, .int (zI s0)), (0, .ref (aMo 0)), (1, .int (zI v1))]) dX11_parse_34 rfl (Nat.le_of_ble_eq_true rfl) rfl ?_
          refine g_iload_n (pc := 35) C 0 dX11_parse_35 rfl rfl ?_
          refine g_istore (pc := 36) C (lv' := [(4, .int (zI (v2 + 1))), (2, .int (zI (v2 + 1))), (3, .int (zI s0)), (0, .ref (aMo 0)), (1, .int (zI v1))]) dX11_parse_36 (Nat.le_of_ble_eq_true rfl) rfl ?_
          refine g_aload_n (pc := 38) C 3 dX11_parse_38 rfl rfl ?_
          refine g_iload_n (pc := 39) C 1 dX11_parse_39 rfl rfl ?_
          refine g_iload_n (pc := 40) C 4 dX11_parse_40 rfl rfl ?_
          obtain ⟨r_41, hc_41, hf⟩ := Option.bind_eq_some_iff.mp hf
          refine g_callV (pc := 41) C hl0 (wr := [((aMo 4), .inl (ca 0, 11, .inl (zA mo_said)))]) (k' := 0) (n' := 0) (ws' := fun _ => [((aMo 4), .inl (ca 0, 11, .inl (zA mo_said))), ((aMo 0), .inr (11, [.ref (aMo 1), .int (zI mo_taped), .ref (aMo 3), .ref (aMo 4), .ref (aMo 5), .ref (aMo 6), .ref (aMo 7), .ref (aMo 8), .ref (aMo 9), .ref (aMo 10), .ref (aMo 11), .ref (aMo 12), .ref (aMo 13), .ref (aMo 14), .ref (aMo 15), .ref (aMo 16), .int (zI mo_size), .int (zI mo_runs), .ref (aMo 19), .ref (aMo 20), .ref (aMo 21), .int (zI mo_found), .int (zI mo_counted), .int (zI mo_isParted), .ref (aMo 25), .ref (aMo 26), .ref (aMo 27), .ref (aMo 28), .ref (aMo 29), .int (zI mo_maybes), .int (zI mo_days), .int (zI mo_over2), .int (zI mo_longer), .ref (aMo 34)])), ((aMo 1), .inl (ca 1, 80, .inl (zA mo_tape)))]) (st' := [.int (zI r_41)]) (kX11_isDigit l D ca aMo mo_tape mo_taped mo_size mo_runs mo_found mo_counted mo_isParted mo_maybes mo_days mo_over2 mo_longer (v2 + 1) v1 r_41 hc_41) wml_RX11_100 wim_X11_isDigit wse_X11_isDigit win_RX11 wco_X11_isDigit (nA := 2) rfl (by decide +kernel)  ⟨(Nat.le_of_ble_eq_true rfl), (Nat.le_of_ble_eq_true rfl)⟩ (Nat.le_refl _) (Nat.le_refl _) rfl (Nat.le_of_ble_eq_true rfl) dX11_parse_41 0 11 rfl rfl rfl [0, 1] [2] rfl rfl rfl (by decide) (by decide) (by decide) rfl rfl (fun _ => rfl) rfl (fun _ => ?_)
          refine g_if_ne (pc := 44) C (tgt := 53) dX11_parse_44 (by decide) hf (fun hf => ?_) (fun hf => ?_)
          · refine g_iconst (pc := 53) C dX11_parse_53 ?_
            refine g_istore (pc := 54) C (lv' := [(5, .int (zI 0)), (4, .int (zI (v2 + 1))), (2, .int (zI (v2 + 1))), (3, .int (zI s0)), (0, .ref (aMo 0)), (1, .int (zI v1))]) dX11_parse_54 (Nat.le_of_ble_eq_true rfl) rfl ?_
            refine g_sub [1, 2, 0] [4, 5, 2, 3, 1, 0] (by decide) rfl rfl rfl ?_
            exact H56 _ _ _ _ _ _ hf
          · refine g_sipush (pc := 47) C dX11_parse_47 (by decide) ?_
            refine g_iload_n (pc := 50) C 1 dX11_parse_50 rfl rfl ?_
            refine g_iadd (pc := 51) C dX11_parse_51 ?_
            exact g_iret (pc := 52) C hf E rfl (fun _ => 0) [1, 2, 0] (by decide) rfl rfl (Nat.le_refl _) (Nat.le_refl _) dX11_parse_52
        · refine g_bipush (pc := 26) C dX11_parse_26 (by decide) ?_
          refine g_iload_n (pc := 28) C 3 dX11_parse_28 rfl rfl ?_
          refine g_iadd (pc := 29) C dX11_parse_29 ?_
          exact g_iret (pc := 30) C hf E rfl (fun _ => 0) [0, 1, 2] (by decide) rfl rfl (Nat.le_refl _) (Nat.le_refl _) dX11_parse_30
      intro v2 mo_said hf
      rw [zlp_s] at hf
      unfold fX11_parse_2 at hf
      dsimp only at hf
      refine g_iload_n (pc := 2) C 2 dX11_parse_2 rfl rfl ?_
      refine g_iload_n (pc := 3) C 1 dX11_parse_3 rfl rfl ?_
      refine g_icmp_ge (pc := 4) C (tgt := 19) dX11_parse_4 (by decide) hf (fun hf => ?_) (fun hf => ?_)
      · refine g_iconst (pc := 19) C dX11_parse_19 ?_
        exact H20 _ _ _ hf
      · refine g_aload_n (pc := 7) C 0 dX11_parse_7 rfl rfl ?_
        refine g_get (pc := 8) C zf_X11_7 0 rfl rfl dX11_parse_8 ?_
        refine g_iload_n (pc := 11) C 2 dX11_parse_11 rfl rfl ?_
        refine g_bald (pc := 12) C (N := 80) 1 rfl rfl (Nat.le_of_ble_eq_true rfl) dX11_parse_12 hf (fun hf => ?_)
        obtain ⟨r_13, hc_13, hf⟩ := Option.bind_eq_some_iff.mp hf
        refine g_callS (pc := 13) C hl0 (wr := [((aMo 0), .inr (11, [.ref (aMo 1), .int (zI mo_taped), .ref (aMo 3), .ref (aMo 4), .ref (aMo 5), .ref (aMo 6), .ref (aMo 7), .ref (aMo 8), .ref (aMo 9), .ref (aMo 10), .ref (aMo 11), .ref (aMo 12), .ref (aMo 13), .ref (aMo 14), .ref (aMo 15), .ref (aMo 16), .int (zI mo_size), .int (zI mo_runs), .ref (aMo 19), .ref (aMo 20), .ref (aMo 21), .int (zI mo_found), .int (zI mo_counted), .int (zI mo_isParted), .ref (aMo 25), .ref (aMo 26), .ref (aMo 27), .ref (aMo 28), .ref (aMo 29), .int (zI mo_maybes), .int (zI mo_days), .int (zI mo_over2), .int (zI mo_longer), .ref (aMo 34)])), ((aMo 1), .inl (ca 1, 80, .inl (zA mo_tape))), ((aMo 4), .inl (ca 0, 11, .inl (zA mo_said)))]) (k' := 0) (n' := 0) (ws' := fun _ => [((aMo 0), .inr (11, [.ref (aMo 1), .int (zI mo_taped), .ref (aMo 3), .ref (aMo 4), .ref (aMo 5), .ref (aMo 6), .ref (aMo 7), .ref (aMo 8), .ref (aMo 9), .ref (aMo 10), .ref (aMo 11), .ref (aMo 12), .ref (aMo 13), .ref (aMo 14), .ref (aMo 15), .ref (aMo 16), .int (zI mo_size), .int (zI mo_runs), .ref (aMo 19), .ref (aMo 20), .ref (aMo 21), .int (zI mo_found), .int (zI mo_counted), .int (zI mo_isParted), .ref (aMo 25), .ref (aMo 26), .ref (aMo 27), .ref (aMo 28), .ref (aMo 29), .int (zI mo_maybes), .int (zI mo_days), .int (zI mo_over2), .int (zI mo_longer), .ref (aMo 34)])), ((aMo 1), .inl (ca 1, 80, .inl (zA mo_tape))), ((aMo 4), .inl (ca 0, 11, .inl (zA mo_said)))]) (st' := [.int (zI r_13)]) (kX11_letterOf l D ca (mo_tape v2.toNat) r_13 hc_13) wml_RX11_96 wst_X11_letterOf win_RX11 wco_X11_letterOf (nA := 1) rfl (by decide +kernel)  ⟨(Nat.le_of_ble_eq_true rfl), (Nat.le_of_ble_eq_true rfl)⟩ (Nat.le_refl _) (Nat.le_refl _) rfl (Nat.le_of_ble_eq_true rfl) dX11_parse_13 [] [0, 1, 2] rfl rfl rfl (by decide) (by decide) (by decide) rfl rfl (fun _ => rfl) rfl (fun _ => ?_)
        refine g_goto (pc := 16) C (tgt := 20) dX11_parse_16 (by decide) ?_
        exact H20 _ _ _ hf
  unfold fX11_parse at hf
  refine g_iconst (pc := 0) C dX11_parse_0 ?_
  refine g_istore_n (pc := 1) C (lv' := [(2, .int (zI 0)), (0, .ref (aMo 0)), (1, .int (zI v1))]) dX11_parse_1 rfl (Nat.le_of_ble_eq_true rfl) rfl ?_
  refine g_sub [0, 1, 2] [1, 2, 0] (by decide) rfl rfl rfl ?_
  exact H2 _ _ _ hf
def oX11_law (ca : Nat → ClassId) (aMo : Nat → Nat) (mo_tape : Nat → Int) (mo_size : Int) (mo_runs : Int) (mo_found : Int) (mo_counted : Int) (mo_isParted : Int) (mo_maybes : Int) (mo_days : Int) (mo_over2 : Int) (mo_longer : Int) (Ro : Int × Int × (Nat → Int) × (Nat → Int)) : (Nat → Nat) → va_W := fun _ => [((aMo 0), .inr (11, [.ref (aMo 1), .int (zI (Ro.2.1)), .ref (aMo 3), .ref (aMo 4), .ref (aMo 5), .ref (aMo 6), .ref (aMo 7), .ref (aMo 8), .ref (aMo 9), .ref (aMo 10), .ref (aMo 11), .ref (aMo 12), .ref (aMo 13), .ref (aMo 14), .ref (aMo 15), .ref (aMo 16), .int (zI mo_size), .int (zI mo_runs), .ref (aMo 19), .ref (aMo 20), .ref (aMo 21), .int (zI mo_found), .int (zI mo_counted), .int (zI mo_isParted), .ref (aMo 25), .ref (aMo 26), .ref (aMo 27), .ref (aMo 28), .ref (aMo 29), .int (zI mo_maybes), .int (zI mo_days), .int (zI mo_over2), .int (zI mo_longer), .ref (aMo 34)])), ((aMo 1), .inl (ca 1, 80, .inl (zA mo_tape))), ((aMo 3), .inl (ca 0, 11, .inl (zA (Ro.2.2.1)))), ((aMo 4), .inl (ca 0, 11, .inl (zA (Ro.2.2.2))))]
def oiX11_law (Ro : Int × Int × (Nat → Int) × (Nat → Int)) : Option Value := (some (.int (zI Ro.1)))
set_option maxRecDepth 100000 in
theorem kX11_law (l : Launch) (D : va_G) (ca : Nat → ClassId) (aMo : Nat → Nat) (mo_tape : Nat → Int) (mo_taped : Int) (mo_rules : Nat → Int) (mo_said : Nat → Int) (mo_size : Int) (mo_runs : Int) (mo_found : Int) (mo_counted : Int) (mo_isParted : Int) (mo_maybes : Int) (mo_days : Int) (mo_over2 : Int) (mo_longer : Int) (v1 : Int) (Ro : Int × Int × (Nat → Int) × (Nat → Int))
    (hf : fX11_law v1 mo_tape mo_taped mo_rules mo_said = some Ro) : Zc l D ca yX11_law cX11_law 4 (some .int) { frames := 2, cells := 0, slots := 0, locals := 47 } [.ref (aMo 0), .int (zI v1)] [((aMo 0), .inr (11, [.ref (aMo 1), .int (zI mo_taped), .ref (aMo 3), .ref (aMo 4), .ref (aMo 5), .ref (aMo 6), .ref (aMo 7), .ref (aMo 8), .ref (aMo 9), .ref (aMo 10), .ref (aMo 11), .ref (aMo 12), .ref (aMo 13), .ref (aMo 14), .ref (aMo 15), .ref (aMo 16), .int (zI mo_size), .int (zI mo_runs), .ref (aMo 19), .ref (aMo 20), .ref (aMo 21), .int (zI mo_found), .int (zI mo_counted), .int (zI mo_isParted), .ref (aMo 25), .ref (aMo 26), .ref (aMo 27), .ref (aMo 28), .ref (aMo 29), .int (zI mo_maybes), .int (zI mo_days), .int (zI mo_over2), .int (zI mo_longer), .ref (aMo 34)])), ((aMo 1), .inl (ca 1, 80, .inl (zA mo_tape))), ((aMo 3), .inl (ca 0, 11, .inl (zA mo_rules))), ((aMo 4), .inl (ca 0, 11, .inl (zA mo_said)))] (oiX11_law Ro) (oX11_law ca aMo mo_tape mo_size mo_runs mo_found mo_counted mo_isParted mo_maybes mo_days mo_over2 mo_longer Ro) := by
  refine ctr_of (lv := [(0, .ref (aMo 0)), (1, .int (zI v1))]) (by decide +kernel) (Nat.le_of_ble_eq_true rfl) rfl (fun Γ hl0 C E hnm => ?_)
  have H12 : ∀ (mo_taped : Int) (mo_rules : Nat → Int) (mo_said : Nat → Int), fX11_law_12 mo_taped mo_rules mo_said = some Ro → Zd D Γ 0 0 [((aMo 0), .inr (11, [.ref (aMo 1), .int (zI mo_taped), .ref (aMo 3), .ref (aMo 4), .ref (aMo 5), .ref (aMo 6), .ref (aMo 7), .ref (aMo 8), .ref (aMo 9), .ref (aMo 10), .ref (aMo 11), .ref (aMo 12), .ref (aMo 13), .ref (aMo 14), .ref (aMo 15), .ref (aMo 16), .int (zI mo_size), .int (zI mo_runs), .ref (aMo 19), .ref (aMo 20), .ref (aMo 21), .int (zI mo_found), .int (zI mo_counted), .int (zI mo_isParted), .ref (aMo 25), .ref (aMo 26), .ref (aMo 27), .ref (aMo 28), .ref (aMo 29), .int (zI mo_maybes), .int (zI mo_days), .int (zI mo_over2), .int (zI mo_longer), .ref (aMo 34)])), ((aMo 1), .inl (ca 1, 80, .inl (zA mo_tape))), ((aMo 3), .inl (ca 0, 11, .inl (zA mo_rules))), ((aMo 4), .inl (ca 0, 11, .inl (zA mo_said)))] 12 [] [] := by
    intro mo_taped mo_rules mo_said hf
    unfold fX11_law_12 at hf
    refine g_iconst (pc := 12) C dX11_law_12 ?_
    exact g_iret (pc := 13) C hf E rfl (fun _ => 0) [0, 1, 2, 3] (by decide) rfl rfl (Nat.le_refl _) (Nat.le_refl _) dX11_law_13
  have H62 : ∀ (v2 : Int) (mo_taped : Int) (mo_rules : Nat → Int) (mo_said : Nat → Int), fX11_law_62 v2 mo_taped mo_rules mo_said = some Ro → Zd D Γ 0 0 [((aMo 0), .inr (11, [.ref (aMo 1), .int (zI mo_taped), .ref (aMo 3), .ref (aMo 4), .ref (aMo 5), .ref (aMo 6), .ref (aMo 7), .ref (aMo 8), .ref (aMo 9), .ref (aMo 10), .ref (aMo 11), .ref (aMo 12), .ref (aMo 13), .ref (aMo 14), .ref (aMo 15), .ref (aMo 16), .int (zI mo_size), .int (zI mo_runs), .ref (aMo 19), .ref (aMo 20), .ref (aMo 21), .int (zI mo_found), .int (zI mo_counted), .int (zI mo_isParted), .ref (aMo 25), .ref (aMo 26), .ref (aMo 27), .ref (aMo 28), .ref (aMo 29), .int (zI mo_maybes), .int (zI mo_days), .int (zI mo_over2), .int (zI mo_longer), .ref (aMo 34)])), ((aMo 1), .inl (ca 1, 80, .inl (zA mo_tape))), ((aMo 3), .inl (ca 0, 11, .inl (zA mo_rules))), ((aMo 4), .inl (ca 0, 11, .inl (zA mo_said)))] 62 [(2, .int (zI v2))] [] := by
    intro v2 mo_taped mo_rules mo_said hf
    unfold fX11_law_62 at hf
    refine g_iload_n (pc := 62) C 0 dX11_law_62 rfl rfl ?_
    exact g_iret (pc := 63) C hf E rfl (fun _ => 0) [0, 1, 2, 3] (by decide) rfl rfl (Nat.le_refl _) (Nat.le_refl _) dX11_law_63
  have H34 : ∀ (v2 : Int) (mo_taped : Int) (mo_said : Nat → Int) (n34 : Nat) (v3 : Int) (mo_rules : Nat → Int), zlp (fX11_law_34 v2 mo_taped mo_said) n34 (v3, mo_rules) = some Ro → Zd D Γ 0 0 [((aMo 0), .inr (11, [.ref (aMo 1), .int (zI mo_taped), .ref (aMo 3), .ref (aMo 4), .ref (aMo 5), .ref (aMo 6), .ref (aMo 7), .ref (aMo 8), .ref (aMo 9), .ref (aMo 10), .ref (aMo 11), .ref (aMo 12), .ref (aMo 13), .ref (aMo 14), .ref (aMo 15), .ref (aMo 16), .int (zI mo_size), .int (zI mo_runs), .ref (aMo 19), .ref (aMo 20), .ref (aMo 21), .int (zI mo_found), .int (zI mo_counted), .int (zI mo_isParted), .ref (aMo 25), .ref (aMo 26), .ref (aMo 27), .ref (aMo 28), .ref (aMo 29), .int (zI mo_maybes), .int (zI mo_days), .int (zI mo_over2), .int (zI mo_longer), .ref (aMo 34)])), ((aMo 1), .inl (ca 1, 80, .inl (zA mo_tape))), ((aMo 3), .inl (ca 0, 11, .inl (zA mo_rules))), ((aMo 4), .inl (ca 0, 11, .inl (zA mo_said)))] 34 [(0, .ref (aMo 0)), (2, .int (zI v2)), (3, .int (zI v3))] [] := by
    intro v2 mo_taped mo_said
    intro n34
    induction n34 with
    | zero =>
      intro v3 mo_rules hf
      exact zno hf
    | succ n34 ih34 =>
      intro v3 mo_rules hf
      rw [zlp_s] at hf
      unfold fX11_law_34 at hf
      dsimp only at hf
      refine g_iload_n (pc := 34) C 2 dX11_law_34 rfl rfl ?_
      refine g_bipush (pc := 35) C dX11_law_35 (by decide) ?_
      refine g_icmp_ger (pc := 37) C (tgt := 62) dX11_law_37 (by decide) (by decide) hf (fun hf => ?_) (fun hf => ?_)
      · refine g_sub [0, 1, 2, 3] [1] (by decide) rfl rfl rfl ?_
        exact H62 _ _ _ _ hf
      · refine g_iload_n (pc := 40) C 1 dX11_law_40 rfl rfl ?_
        refine g_if_ne (pc := 41) C (tgt := 62) dX11_law_41 (by decide) hf (fun hf => ?_) (fun hf => ?_)
        · refine g_sub [0, 1, 2, 3] [1] (by decide) rfl rfl rfl ?_
          exact H62 _ _ _ _ hf
        · refine g_aload_n (pc := 44) C 0 dX11_law_44 rfl rfl ?_
          refine g_get (pc := 45) C zf_X11_13 0 rfl rfl dX11_law_45 ?_
          refine g_iload_n (pc := 48) C 2 dX11_law_48 rfl rfl ?_
          refine g_aload_n (pc := 49) C 0 dX11_law_49 rfl rfl ?_
          refine g_get (pc := 50) C zf_X11_17 0 rfl rfl dX11_law_50 ?_
          refine g_iload_n (pc := 53) C 2 dX11_law_53 rfl rfl ?_
          refine g_iald (pc := 54) C (N := 11) 3 rfl rfl (Nat.le_of_ble_eq_true rfl) dX11_law_54 hf (fun hf => ?_)
          refine g_iast (pc := 55) C (N := 11) (ws' := [((aMo 0), .inr (11, [.ref (aMo 1), .int (zI mo_taped), .ref (aMo 3), .ref (aMo 4), .ref (aMo 5), .ref (aMo 6), .ref (aMo 7), .ref (aMo 8), .ref (aMo 9), .ref (aMo 10), .ref (aMo 11), .ref (aMo 12), .ref (aMo 13), .ref (aMo 14), .ref (aMo 15), .ref (aMo 16), .int (zI mo_size), .int (zI mo_runs), .ref (aMo 19), .ref (aMo 20), .ref (aMo 21), .int (zI mo_found), .int (zI mo_counted), .int (zI mo_isParted), .ref (aMo 25), .ref (aMo 26), .ref (aMo 27), .ref (aMo 28), .ref (aMo 29), .int (zI mo_maybes), .int (zI mo_days), .int (zI mo_over2), .int (zI mo_longer), .ref (aMo 34)])), ((aMo 1), .inl (ca 1, 80, .inl (zA mo_tape))), ((aMo 3), .inl (ca 0, 11, .inl (zA (zU mo_rules v3.toNat (mo_said v3.toNat))))), ((aMo 4), .inl (ca 0, 11, .inl (zA mo_said)))]) 2 rfl rfl (Nat.le_of_ble_eq_true rfl) rfl dX11_law_55 hf (fun hf => ?_)
          refine g_iinc (pc := 56) C 2 (lv' := [(3, .int (zI (v3 + 1))), (0, .ref (aMo 0)), (2, .int (zI v2))]) dX11_law_56 rfl (Nat.le_of_ble_eq_true rfl) rfl ?_
          refine g_goto (pc := 59) C (tgt := 34) dX11_law_59 (by decide) ?_
          refine g_sub [0, 1, 2, 3] [1, 2, 0] (by decide) rfl rfl rfl ?_
          exact ih34 _ _ hf
  unfold fX11_law at hf
  refine g_iload_n (pc := 0) C 1 dX11_law_0 rfl rfl ?_
  refine g_if_lt (pc := 1) C (tgt := 12) dX11_law_1 (by decide) hf (fun hf => ?_) (fun hf => ?_)
  · refine g_sub [0, 1, 2, 3] [] (by decide) rfl rfl rfl ?_
    exact H12 _ _ _ hf
  · refine g_iload_n (pc := 4) C 1 dX11_law_4 rfl rfl ?_
    refine g_aload_n (pc := 5) C 0 dX11_law_5 rfl rfl ?_
    refine g_get (pc := 6) C zf_X11_88 0 rfl rfl dX11_law_6 ?_
    refine g_icmp_le (pc := 9) C (tgt := 14) dX11_law_9 (by decide) hf (fun hf => ?_) (fun hf => ?_)
    · refine g_aload_n (pc := 14) C 0 dX11_law_14 rfl rfl ?_
      refine g_get (pc := 15) C zf_X11_17 0 rfl rfl dX11_law_15 ?_
      obtain ⟨mo_said_18, hc_18, hf⟩ := Option.bind_eq_some_iff.mp hf
      refine g_callS (pc := 18) C hl0 (wr := [((aMo 0), .inr (11, [.ref (aMo 1), .int (zI mo_taped), .ref (aMo 3), .ref (aMo 4), .ref (aMo 5), .ref (aMo 6), .ref (aMo 7), .ref (aMo 8), .ref (aMo 9), .ref (aMo 10), .ref (aMo 11), .ref (aMo 12), .ref (aMo 13), .ref (aMo 14), .ref (aMo 15), .ref (aMo 16), .int (zI mo_size), .int (zI mo_runs), .ref (aMo 19), .ref (aMo 20), .ref (aMo 21), .int (zI mo_found), .int (zI mo_counted), .int (zI mo_isParted), .ref (aMo 25), .ref (aMo 26), .ref (aMo 27), .ref (aMo 28), .ref (aMo 29), .int (zI mo_maybes), .int (zI mo_days), .int (zI mo_over2), .int (zI mo_longer), .ref (aMo 34)])), ((aMo 1), .inl (ca 1, 80, .inl (zA mo_tape))), ((aMo 3), .inl (ca 0, 11, .inl (zA mo_rules)))]) (k' := 0) (n' := 0) (ws' := fun _ => [((aMo 0), .inr (11, [.ref (aMo 1), .int (zI mo_taped), .ref (aMo 3), .ref (aMo 4), .ref (aMo 5), .ref (aMo 6), .ref (aMo 7), .ref (aMo 8), .ref (aMo 9), .ref (aMo 10), .ref (aMo 11), .ref (aMo 12), .ref (aMo 13), .ref (aMo 14), .ref (aMo 15), .ref (aMo 16), .int (zI mo_size), .int (zI mo_runs), .ref (aMo 19), .ref (aMo 20), .ref (aMo 21), .int (zI mo_found), .int (zI mo_counted), .int (zI mo_isParted), .ref (aMo 25), .ref (aMo 26), .ref (aMo 27), .ref (aMo 28), .ref (aMo 29), .int (zI mo_maybes), .int (zI mo_days), .int (zI mo_over2), .int (zI mo_longer), .ref (aMo 34)])), ((aMo 1), .inl (ca 1, 80, .inl (zA mo_tape))), ((aMo 3), .inl (ca 0, 11, .inl (zA mo_rules))), ((aMo 4), .inl (ca 0, 11, .inl (zA mo_said_18)))]) (st' := []) (kX11_begins l D ca (aMo 4) mo_said mo_said_18 hc_18) wml_RX11_84 wst_X11_begins win_RX11 wco_X11_begins (nA := 1) rfl (by decide +kernel)  ⟨(Nat.le_of_ble_eq_true rfl), (Nat.le_of_ble_eq_true rfl)⟩ (Nat.le_refl _) (Nat.le_refl _) rfl (Nat.le_of_ble_eq_true rfl) dX11_law_18 [3] [0, 1, 2] rfl rfl rfl (by decide) (by decide) (by decide) rfl rfl (fun _ => rfl) rfl (fun _ => ?_)
      refine g_aload_n (pc := 21) C 0 dX11_law_21 rfl rfl ?_
      refine g_iload_n (pc := 22) C 1 dX11_law_22 rfl rfl ?_
      obtain ⟨⟨r_23, mo_said_23⟩, hc_23, hf⟩ := Option.bind_eq_some_iff.mp hf
      dsimp only at hf
      refine g_callV (pc := 23) C hl0 (wr := [((aMo 3), .inl (ca 0, 11, .inl (zA mo_rules)))]) (k' := 0) (n' := 0) (ws' := fun _ => [((aMo 3), .inl (ca 0, 11, .inl (zA mo_rules))), ((aMo 0), .inr (11, [.ref (aMo 1), .int (zI mo_taped), .ref (aMo 3), .ref (aMo 4), .ref (aMo 5), .ref (aMo 6), .ref (aMo 7), .ref (aMo 8), .ref (aMo 9), .ref (aMo 10), .ref (aMo 11), .ref (aMo 12), .ref (aMo 13), .ref (aMo 14), .ref (aMo 15), .ref (aMo 16), .int (zI mo_size), .int (zI mo_runs), .ref (aMo 19), .ref (aMo 20), .ref (aMo 21), .int (zI mo_found), .int (zI mo_counted), .int (zI mo_isParted), .ref (aMo 25), .ref (aMo 26), .ref (aMo 27), .ref (aMo 28), .ref (aMo 29), .int (zI mo_maybes), .int (zI mo_days), .int (zI mo_over2), .int (zI mo_longer), .ref (aMo 34)])), ((aMo 1), .inl (ca 1, 80, .inl (zA mo_tape))), ((aMo 4), .inl (ca 0, 11, .inl (zA mo_said_23)))]) (st' := [.int (zI r_23)]) (kX11_parse l D ca aMo mo_tape mo_taped mo_said_18 mo_size mo_runs mo_found mo_counted mo_isParted mo_maybes mo_days mo_over2 mo_longer v1 (r_23, mo_said_23) hc_23) wml_RX11_107 wim_X11_parse wse_X11_parse win_RX11 wco_X11_parse (nA := 1) rfl (by decide +kernel)  ⟨(Nat.le_of_ble_eq_true rfl), (Nat.le_of_ble_eq_true rfl)⟩ (Nat.le_refl _) (Nat.le_refl _) rfl (Nat.le_of_ble_eq_true rfl) dX11_law_23 0 11 rfl rfl rfl [0, 1, 3] [2] rfl rfl rfl (by decide) (by decide) (by decide) rfl rfl (fun _ => rfl) rfl (fun _ => ?_)
      refine g_istore_n (pc := 26) C (lv' := [(2, .int (zI r_23)), (0, .ref (aMo 0)), (1, .int (zI v1))]) dX11_law_26 rfl (Nat.le_of_ble_eq_true rfl) rfl ?_
      refine g_aload_n (pc := 27) C 1 dX11_law_27 rfl rfl ?_
      refine g_iconst (pc := 28) C dX11_law_28 ?_
      refine g_put (pc := 29) C zf_X11_88 tyX11 tyX11_ok nmX11 (v := .int (zI 0)) (ws' := [((aMo 3), .inl (ca 0, 11, .inl (zA mo_rules))), ((aMo 0), .inr (11, [.ref (aMo 1), .int (zI 0), .ref (aMo 3), .ref (aMo 4), .ref (aMo 5), .ref (aMo 6), .ref (aMo 7), .ref (aMo 8), .ref (aMo 9), .ref (aMo 10), .ref (aMo 11), .ref (aMo 12), .ref (aMo 13), .ref (aMo 14), .ref (aMo 15), .ref (aMo 16), .int (zI mo_size), .int (zI mo_runs), .ref (aMo 19), .ref (aMo 20), .ref (aMo 21), .int (zI mo_found), .int (zI mo_counted), .int (zI mo_isParted), .ref (aMo 25), .ref (aMo 26), .ref (aMo 27), .ref (aMo 28), .ref (aMo 29), .int (zI mo_maybes), .int (zI mo_days), .int (zI mo_over2), .int (zI mo_longer), .ref (aMo 34)])), ((aMo 1), .inl (ca 1, 80, .inl (zA mo_tape))), ((aMo 4), .inl (ca 0, 11, .inl (zA mo_said_23)))]) 1 rfl rfl rfl rfl rfl (Nat.le_of_ble_eq_true rfl) rfl rfl dX11_law_29 ?_
      refine g_iconst (pc := 32) C dX11_law_32 ?_
      refine g_istore_n (pc := 33) C (lv' := [(3, .int (zI 0)), (2, .int (zI r_23)), (0, .ref (aMo 0)), (1, .int (zI v1))]) dX11_law_33 rfl (Nat.le_of_ble_eq_true rfl) rfl ?_
      refine g_sub [1, 2, 0, 3] [2, 1, 0] (by decide) rfl rfl rfl ?_
      exact H34 _ _ _ _ _ _ hf
    · refine g_sub [0, 1, 2, 3] [] (by decide) rfl rfl rfl ?_
      exact H12 _ _ _ hf
def oX11_lesser (ca : Nat → ClassId)   (Ro : Int) : (Nat → Nat) → va_W := fun _ => []
def oiX11_lesser (Ro : Int) : Option Value := (some (.int (zI Ro)))
set_option maxRecDepth 100000 in
theorem kX11_lesser (l : Launch) (D : va_G) (ca : Nat → ClassId)   (v0 : Int) (v1 : Int) (Ro : Int)
    (hf : fX11_lesser v0 v1 = some Ro) : Zc l D ca yX11_lesser cX11_lesser 2 (some .int) { frames := 0, cells := 0, slots := 0, locals := 0 } [.int (zI v0), .int (zI v1)] [] (oiX11_lesser Ro) (oX11_lesser ca Ro) := by
  refine ctr_of (lv := [(0, .int (zI v0)), (1, .int (zI v1))]) (by decide +kernel) (Nat.le_of_ble_eq_true rfl) rfl (fun Γ hl0 C E hnm => ?_)
  unfold fX11_lesser at hf
  refine g_iload_n (pc := 0) C 0 dX11_lesser_0 rfl rfl ?_
  refine g_iload_n (pc := 1) C 1 dX11_lesser_1 rfl rfl ?_
  refine g_icmp_ge (pc := 2) C (tgt := 9) dX11_lesser_2 (by decide) hf (fun hf => ?_) (fun hf => ?_)
  · refine g_iload_n (pc := 9) C 1 dX11_lesser_9 rfl rfl ?_
    exact g_iret (pc := 10) C hf E rfl (fun _ => 0) [] (by decide) rfl rfl (Nat.le_refl _) (Nat.le_refl _) dX11_lesser_10
  · refine g_iload_n (pc := 5) C 0 dX11_lesser_5 rfl rfl ?_
    refine g_goto (pc := 6) C (tgt := 10) dX11_lesser_6 (by decide) ?_
    exact g_iret (pc := 10) C hf E rfl (fun _ => 0) [] (by decide) rfl rfl (Nat.le_refl _) (Nat.le_refl _) dX11_lesser_10
def oX11_look (ca : Nat → ClassId) (aMo : Nat → Nat) (mo_taped : Int) (mo_acts : Nat → Int) (mo_kindOf : Nat → Int) (mo_lengthOf : Nat → Int) (mo_vehicleOf : Nat → Int) (mo_size : Int) (mo_runs : Int) (mo_found : Int) (mo_counted : Int) (mo_isParted : Int) (mo_maybes : Int) (mo_days : Int) (mo_over2 : Int) (mo_longer : Int) (Ro : Int) : (Nat → Nat) → va_W := fun _ => [((aMo 0), .inr (11, [.ref (aMo 1), .int (zI mo_taped), .ref (aMo 3), .ref (aMo 4), .ref (aMo 5), .ref (aMo 6), .ref (aMo 7), .ref (aMo 8), .ref (aMo 9), .ref (aMo 10), .ref (aMo 11), .ref (aMo 12), .ref (aMo 13), .ref (aMo 14), .ref (aMo 15), .ref (aMo 16), .int (zI mo_size), .int (zI mo_runs), .ref (aMo 19), .ref (aMo 20), .ref (aMo 21), .int (zI mo_found), .int (zI mo_counted), .int (zI mo_isParted), .ref (aMo 25), .ref (aMo 26), .ref (aMo 27), .ref (aMo 28), .ref (aMo 29), .int (zI mo_maybes), .int (zI mo_days), .int (zI mo_over2), .int (zI mo_longer), .ref (aMo 34)])), ((aMo 5), .inl (ca 0, 4, .inl (zA mo_acts))), ((aMo 7), .inl (ca 0, 240, .inl (zA mo_kindOf))), ((aMo 8), .inl (ca 0, 240, .inl (zA mo_lengthOf))), ((aMo 9), .inl (ca 0, 240, .inl (zA mo_vehicleOf)))]
def oiX11_look (Ro : Int) : Option Value := (some (.int (zI Ro)))
set_option maxRecDepth 100000 in
theorem kX11_look (l : Launch) (D : va_G) (ca : Nat → ClassId) (aMo : Nat → Nat) (mo_taped : Int) (mo_acts : Nat → Int) (mo_kindOf : Nat → Int) (mo_lengthOf : Nat → Int) (mo_vehicleOf : Nat → Int) (mo_size : Int) (mo_runs : Int) (mo_found : Int) (mo_counted : Int) (mo_isParted : Int) (mo_maybes : Int) (mo_days : Int) (mo_over2 : Int) (mo_longer : Int) (v1 : Int) (v2 : Int) (v3 : Int) (Ro : Int)
    (hf : fX11_look v1 v2 v3 mo_acts mo_kindOf mo_lengthOf mo_vehicleOf = some Ro) : Zc l D ca yX11_look cX11_look 7 (some .int) { frames := 1, cells := 0, slots := 0, locals := 20 } [.ref (aMo 0), .int (zI v1), .int (zI v2), .int (zI v3)] [((aMo 0), .inr (11, [.ref (aMo 1), .int (zI mo_taped), .ref (aMo 3), .ref (aMo 4), .ref (aMo 5), .ref (aMo 6), .ref (aMo 7), .ref (aMo 8), .ref (aMo 9), .ref (aMo 10), .ref (aMo 11), .ref (aMo 12), .ref (aMo 13), .ref (aMo 14), .ref (aMo 15), .ref (aMo 16), .int (zI mo_size), .int (zI mo_runs), .ref (aMo 19), .ref (aMo 20), .ref (aMo 21), .int (zI mo_found), .int (zI mo_counted), .int (zI mo_isParted), .ref (aMo 25), .ref (aMo 26), .ref (aMo 27), .ref (aMo 28), .ref (aMo 29), .int (zI mo_maybes), .int (zI mo_days), .int (zI mo_over2), .int (zI mo_longer), .ref (aMo 34)])), ((aMo 5), .inl (ca 0, 4, .inl (zA mo_acts))), ((aMo 7), .inl (ca 0, 240, .inl (zA mo_kindOf))), ((aMo 8), .inl (ca 0, 240, .inl (zA mo_lengthOf))), ((aMo 9), .inl (ca 0, 240, .inl (zA mo_vehicleOf)))] (oiX11_look Ro) (oX11_look ca aMo mo_taped mo_acts mo_kindOf mo_lengthOf mo_vehicleOf mo_size mo_runs mo_found mo_counted mo_isParted mo_maybes mo_days mo_over2 mo_longer Ro) := by
  refine ctr_of (lv := [(0, .ref (aMo 0)), (1, .int (zI v1)), (2, .int (zI v2)), (3, .int (zI v3))]) (by decide +kernel) (Nat.le_of_ble_eq_true rfl) rfl (fun Γ hl0 C E hnm => ?_)
  have H21 : fX11_look_21 = some Ro → Zd D Γ 0 0 [((aMo 0), .inr (11, [.ref (aMo 1), .int (zI mo_taped), .ref (aMo 3), .ref (aMo 4), .ref (aMo 5), .ref (aMo 6), .ref (aMo 7), .ref (aMo 8), .ref (aMo 9), .ref (aMo 10), .ref (aMo 11), .ref (aMo 12), .ref (aMo 13), .ref (aMo 14), .ref (aMo 15), .ref (aMo 16), .int (zI mo_size), .int (zI mo_runs), .ref (aMo 19), .ref (aMo 20), .ref (aMo 21), .int (zI mo_found), .int (zI mo_counted), .int (zI mo_isParted), .ref (aMo 25), .ref (aMo 26), .ref (aMo 27), .ref (aMo 28), .ref (aMo 29), .int (zI mo_maybes), .int (zI mo_days), .int (zI mo_over2), .int (zI mo_longer), .ref (aMo 34)])), ((aMo 5), .inl (ca 0, 4, .inl (zA mo_acts))), ((aMo 7), .inl (ca 0, 240, .inl (zA mo_kindOf))), ((aMo 8), .inl (ca 0, 240, .inl (zA mo_lengthOf))), ((aMo 9), .inl (ca 0, 240, .inl (zA mo_vehicleOf)))] 21 [] [] := by
    intro  hf
    unfold fX11_look_21 at hf
    refine g_iconst (pc := 21) C dX11_look_21 ?_
    exact g_iret (pc := 22) C hf E rfl (fun _ => 0) [0, 1, 2, 3, 4] (by decide) rfl rfl (Nat.le_refl _) (Nat.le_refl _) dX11_look_22
  have H40 : ∀ (v4 : Int) (n40 : Nat) (v5 : Int) (v6 : Int), zlp (fX11_look_40 v3 v4 mo_kindOf mo_lengthOf mo_vehicleOf) n40 (v5, v6) = some Ro → Zd D Γ 0 0 [((aMo 0), .inr (11, [.ref (aMo 1), .int (zI mo_taped), .ref (aMo 3), .ref (aMo 4), .ref (aMo 5), .ref (aMo 6), .ref (aMo 7), .ref (aMo 8), .ref (aMo 9), .ref (aMo 10), .ref (aMo 11), .ref (aMo 12), .ref (aMo 13), .ref (aMo 14), .ref (aMo 15), .ref (aMo 16), .int (zI mo_size), .int (zI mo_runs), .ref (aMo 19), .ref (aMo 20), .ref (aMo 21), .int (zI mo_found), .int (zI mo_counted), .int (zI mo_isParted), .ref (aMo 25), .ref (aMo 26), .ref (aMo 27), .ref (aMo 28), .ref (aMo 29), .int (zI mo_maybes), .int (zI mo_days), .int (zI mo_over2), .int (zI mo_longer), .ref (aMo 34)])), ((aMo 5), .inl (ca 0, 4, .inl (zA mo_acts))), ((aMo 7), .inl (ca 0, 240, .inl (zA mo_kindOf))), ((aMo 8), .inl (ca 0, 240, .inl (zA mo_lengthOf))), ((aMo 9), .inl (ca 0, 240, .inl (zA mo_vehicleOf)))] 40 [(0, .ref (aMo 0)), (3, .int (zI v3)), (4, .int (zI v4)), (5, .int (zI v5)), (6, .int (zI v6))] [] := by
    intro v4
    intro n40
    induction n40 with
    | zero =>
      intro v5 v6 hf
      exact zno hf
    | succ n40 ih40 =>
      intro v5 v6 hf
      rw [zlp_s] at hf
      unfold fX11_look_40 at hf
      dsimp only at hf
      refine g_iload (pc := 40) C 4 dX11_look_40 rfl ?_
      refine g_iload (pc := 42) C 2 dX11_look_42 rfl ?_
      refine g_icmp_ge (pc := 44) C (tgt := 65) dX11_look_44 (by decide) hf (fun hf => ?_) (fun hf => ?_)
      · refine g_iload_n (pc := 65) C 1 dX11_look_65 rfl rfl ?_
        refine g_if_ne (pc := 66) C (tgt := 79) dX11_look_66 (by decide) hf (fun hf => ?_) (fun hf => ?_)
        · refine g_iload_n (pc := 79) C 1 dX11_look_79 rfl rfl ?_
          refine g_iconst (pc := 80) C dX11_look_80 ?_
          refine g_icmp_ner (pc := 81) C (tgt := 94) dX11_look_81 (by decide) (by decide) hf (fun hf => ?_) (fun hf => ?_)
          · refine g_iload_n (pc := 94) C 1 dX11_look_94 rfl rfl ?_
            refine g_iconst (pc := 95) C dX11_look_95 ?_
            refine g_icmp_ner (pc := 96) C (tgt := 104) dX11_look_96 (by decide) (by decide) hf (fun hf => ?_) (fun hf => ?_)
            · refine g_iload_n (pc := 104) C 1 dX11_look_104 rfl rfl ?_
              refine g_iconst (pc := 105) C dX11_look_105 ?_
              refine g_icmp_ner (pc := 106) C (tgt := 119) dX11_look_106 (by decide) (by decide) hf (fun hf => ?_) (fun hf => ?_)
              · refine g_iconst (pc := 119) C dX11_look_119 ?_
                exact g_iret (pc := 120) C hf E rfl (fun _ => 0) [0, 1, 2, 3, 4] (by decide) rfl rfl (Nat.le_refl _) (Nat.le_refl _) dX11_look_120
              · refine g_aload_n (pc := 109) C 0 dX11_look_109 rfl rfl ?_
                refine g_get (pc := 110) C zf_X11_32 0 rfl rfl dX11_look_110 ?_
                refine g_iload (pc := 113) C 2 dX11_look_113 rfl ?_
                refine g_iald (pc := 115) C (N := 240) 4 rfl rfl (Nat.le_of_ble_eq_true rfl) dX11_look_115 hf (fun hf => ?_)
                refine g_goto (pc := 116) C (tgt := 120) dX11_look_116 (by decide) ?_
                exact g_iret (pc := 120) C hf E rfl (fun _ => 0) [0, 1, 2, 3, 4] (by decide) rfl rfl (Nat.le_refl _) (Nat.le_refl _) dX11_look_120
            · refine g_iload (pc := 99) C 3 dX11_look_99 rfl ?_
              refine g_goto (pc := 101) C (tgt := 120) dX11_look_101 (by decide) ?_
              exact g_iret (pc := 120) C hf E rfl (fun _ => 0) [0, 1, 2, 3, 4] (by decide) rfl rfl (Nat.le_refl _) (Nat.le_refl _) dX11_look_120
          · refine g_aload_n (pc := 84) C 0 dX11_look_84 rfl rfl ?_
            refine g_get (pc := 85) C zf_X11_29 0 rfl rfl dX11_look_85 ?_
            refine g_iload (pc := 88) C 2 dX11_look_88 rfl ?_
            refine g_iald (pc := 90) C (N := 240) 3 rfl rfl (Nat.le_of_ble_eq_true rfl) dX11_look_90 hf (fun hf => ?_)
            refine g_goto (pc := 91) C (tgt := 120) dX11_look_91 (by decide) ?_
            exact g_iret (pc := 120) C hf E rfl (fun _ => 0) [0, 1, 2, 3, 4] (by decide) rfl rfl (Nat.le_refl _) (Nat.le_refl _) dX11_look_120
        · refine g_aload_n (pc := 69) C 0 dX11_look_69 rfl rfl ?_
          refine g_get (pc := 70) C zf_X11_26 0 rfl rfl dX11_look_70 ?_
          refine g_iload (pc := 73) C 2 dX11_look_73 rfl ?_
          refine g_iald (pc := 75) C (N := 240) 2 rfl rfl (Nat.le_of_ble_eq_true rfl) dX11_look_75 hf (fun hf => ?_)
          refine g_goto (pc := 76) C (tgt := 120) dX11_look_76 (by decide) ?_
          exact g_iret (pc := 120) C hf E rfl (fun _ => 0) [0, 1, 2, 3, 4] (by decide) rfl rfl (Nat.le_refl _) (Nat.le_refl _) dX11_look_120
      · refine g_iload (pc := 47) C 3 dX11_look_47 rfl ?_
        refine g_aload_n (pc := 49) C 0 dX11_look_49 rfl rfl ?_
        refine g_get (pc := 50) C zf_X11_29 0 rfl rfl dX11_look_50 ?_
        refine g_iload (pc := 53) C 4 dX11_look_53 rfl ?_
        refine g_iald (pc := 55) C (N := 240) 3 rfl rfl (Nat.le_of_ble_eq_true rfl) dX11_look_55 hf (fun hf => ?_)
        refine g_iadd (pc := 56) C dX11_look_56 ?_
        refine g_istore (pc := 57) C (lv' := [(5, .int (zI (v5 + (mo_lengthOf v6.toNat)))), (0, .ref (aMo 0)), (3, .int (zI v3)), (4, .int (zI v4)), (6, .int (zI v6))]) dX11_look_57 (Nat.le_of_ble_eq_true rfl) rfl ?_
        refine g_iinc (pc := 59) C 4 (lv' := [(6, .int (zI (v6 + 1))), (5, .int (zI (v5 + (mo_lengthOf v6.toNat)))), (0, .ref (aMo 0)), (3, .int (zI v3)), (4, .int (zI v4))]) dX11_look_59 rfl (Nat.le_of_ble_eq_true rfl) rfl ?_
        refine g_goto (pc := 62) C (tgt := 40) dX11_look_62 (by decide) ?_
        refine g_sub [0, 1, 2, 3, 4] [2, 3, 4, 1, 0] (by decide) rfl rfl rfl ?_
        exact ih40 _ _ hf
  unfold fX11_look at hf
  refine g_iload_n (pc := 0) C 1 dX11_look_0 rfl rfl ?_
  obtain ⟨r_1, hc_1, hf⟩ := Option.bind_eq_some_iff.mp hf
  refine g_callS (pc := 1) C hl0 (wr := [((aMo 0), .inr (11, [.ref (aMo 1), .int (zI mo_taped), .ref (aMo 3), .ref (aMo 4), .ref (aMo 5), .ref (aMo 6), .ref (aMo 7), .ref (aMo 8), .ref (aMo 9), .ref (aMo 10), .ref (aMo 11), .ref (aMo 12), .ref (aMo 13), .ref (aMo 14), .ref (aMo 15), .ref (aMo 16), .int (zI mo_size), .int (zI mo_runs), .ref (aMo 19), .ref (aMo 20), .ref (aMo 21), .int (zI mo_found), .int (zI mo_counted), .int (zI mo_isParted), .ref (aMo 25), .ref (aMo 26), .ref (aMo 27), .ref (aMo 28), .ref (aMo 29), .int (zI mo_maybes), .int (zI mo_days), .int (zI mo_over2), .int (zI mo_longer), .ref (aMo 34)])), ((aMo 5), .inl (ca 0, 4, .inl (zA mo_acts))), ((aMo 7), .inl (ca 0, 240, .inl (zA mo_kindOf))), ((aMo 8), .inl (ca 0, 240, .inl (zA mo_lengthOf))), ((aMo 9), .inl (ca 0, 240, .inl (zA mo_vehicleOf)))]) (k' := 0) (n' := 0) (ws' := fun _ => [((aMo 0), .inr (11, [.ref (aMo 1), .int (zI mo_taped), .ref (aMo 3), .ref (aMo 4), .ref (aMo 5), .ref (aMo 6), .ref (aMo 7), .ref (aMo 8), .ref (aMo 9), .ref (aMo 10), .ref (aMo 11), .ref (aMo 12), .ref (aMo 13), .ref (aMo 14), .ref (aMo 15), .ref (aMo 16), .int (zI mo_size), .int (zI mo_runs), .ref (aMo 19), .ref (aMo 20), .ref (aMo 21), .int (zI mo_found), .int (zI mo_counted), .int (zI mo_isParted), .ref (aMo 25), .ref (aMo 26), .ref (aMo 27), .ref (aMo 28), .ref (aMo 29), .int (zI mo_maybes), .int (zI mo_days), .int (zI mo_over2), .int (zI mo_longer), .ref (aMo 34)])), ((aMo 5), .inl (ca 0, 4, .inl (zA mo_acts))), ((aMo 7), .inl (ca 0, 240, .inl (zA mo_kindOf))), ((aMo 8), .inl (ca 0, 240, .inl (zA mo_lengthOf))), ((aMo 9), .inl (ca 0, 240, .inl (zA mo_vehicleOf)))]) (st' := [.int (zI r_1)]) (kX11_isCard l D ca v1 r_1 hc_1) wml_RX11_110 wst_X11_isCard win_RX11 wco_X11_isCard (nA := 1) rfl (by decide +kernel)  ⟨(Nat.le_of_ble_eq_true rfl), (Nat.le_of_ble_eq_true rfl)⟩ (Nat.le_refl _) (Nat.le_refl _) rfl (Nat.le_of_ble_eq_true rfl) dX11_look_1 [] [0, 1, 2, 3, 4] rfl rfl rfl (by decide) (by decide) (by decide) rfl rfl (fun _ => rfl) rfl (fun _ => ?_)
  refine g_if_eq (pc := 4) C (tgt := 21) dX11_look_4 (by decide) hf (fun hf => ?_) (fun hf => ?_)
  · refine g_sub [0, 1, 2, 3, 4] [] (by decide) rfl rfl rfl ?_
    exact H21  hf
  · refine g_iload_n (pc := 7) C 2 dX11_look_7 rfl rfl ?_
    refine g_if_lt (pc := 8) C (tgt := 21) dX11_look_8 (by decide) hf (fun hf => ?_) (fun hf => ?_)
    · refine g_sub [0, 1, 2, 3, 4] [] (by decide) rfl rfl rfl ?_
      exact H21  hf
    · refine g_iload_n (pc := 11) C 2 dX11_look_11 rfl rfl ?_
      refine g_aload_n (pc := 12) C 0 dX11_look_12 rfl rfl ?_
      refine g_get (pc := 13) C zf_X11_20 0 rfl rfl dX11_look_13 ?_
      refine g_iload_n (pc := 16) C 1 dX11_look_16 rfl rfl ?_
      refine g_iald (pc := 17) C (N := 4) 1 rfl rfl (Nat.le_of_ble_eq_true rfl) dX11_look_17 hf (fun hf => ?_)
      refine g_icmp_lt (pc := 18) C (tgt := 23) dX11_look_18 (by decide) hf (fun hf => ?_) (fun hf => ?_)
      · refine g_bipush (pc := 23) C dX11_look_23 (by decide) ?_
        refine g_iload_n (pc := 25) C 1 dX11_look_25 rfl rfl ?_
        refine g_imul (pc := 26) C dX11_look_26 ?_
        refine g_iload_n (pc := 27) C 2 dX11_look_27 rfl rfl ?_
        refine g_iadd (pc := 28) C dX11_look_28 ?_
        refine g_istore (pc := 29) C (lv' := [(4, .int (zI ((60 * v1) + v2))), (0, .ref (aMo 0)), (1, .int (zI v1)), (2, .int (zI v2)), (3, .int (zI v3))]) dX11_look_29 (Nat.le_of_ble_eq_true rfl) rfl ?_
        refine g_iconst (pc := 31) C dX11_look_31 ?_
        refine g_istore (pc := 32) C (lv' := [(5, .int (zI 0)), (4, .int (zI ((60 * v1) + v2))), (0, .ref (aMo 0)), (1, .int (zI v1)), (2, .int (zI v2)), (3, .int (zI v3))]) dX11_look_32 (Nat.le_of_ble_eq_true rfl) rfl ?_
        refine g_bipush (pc := 34) C dX11_look_34 (by decide) ?_
        refine g_iload_n (pc := 36) C 3 dX11_look_36 rfl rfl ?_
        refine g_imul (pc := 37) C dX11_look_37 ?_
        refine g_istore (pc := 38) C (lv' := [(6, .int (zI (60 * v1))), (5, .int (zI 0)), (4, .int (zI ((60 * v1) + v2))), (0, .ref (aMo 0)), (1, .int (zI v1)), (2, .int (zI v2)), (3, .int (zI v3))]) dX11_look_38 (Nat.le_of_ble_eq_true rfl) rfl ?_
        refine g_sub [0, 1, 2, 3, 4] [3, 6, 2, 1, 0] (by decide) rfl rfl rfl ?_
        exact H40 _ _ _ _ hf
      · refine g_sub [0, 1, 2, 3, 4] [] (by decide) rfl rfl rfl ?_
        exact H21  hf
def oX11_open (ca : Nat → ClassId) (aMo : Nat → Nat) (mo_taped : Int) (mo_rules : Nat → Int) (mo_driven : Nat → Int) (mo_runFrom : Nat → Int) (mo_runTo : Nat → Int) (mo_size : Int) (mo_runs : Int) (mo_found : Int) (mo_maybes : Int) (mo_days : Int) (mo_over2 : Int) (mo_longer : Int) (Ro : Int × Int × Int) : (Nat → Nat) → va_W := fun _ => [((aMo 0), .inr (11, [.ref (aMo 1), .int (zI mo_taped), .ref (aMo 3), .ref (aMo 4), .ref (aMo 5), .ref (aMo 6), .ref (aMo 7), .ref (aMo 8), .ref (aMo 9), .ref (aMo 10), .ref (aMo 11), .ref (aMo 12), .ref (aMo 13), .ref (aMo 14), .ref (aMo 15), .ref (aMo 16), .int (zI mo_size), .int (zI mo_runs), .ref (aMo 19), .ref (aMo 20), .ref (aMo 21), .int (zI mo_found), .int (zI (Ro.2.1)), .int (zI (Ro.2.2)), .ref (aMo 25), .ref (aMo 26), .ref (aMo 27), .ref (aMo 28), .ref (aMo 29), .int (zI mo_maybes), .int (zI mo_days), .int (zI mo_over2), .int (zI mo_longer), .ref (aMo 34)])), ((aMo 3), .inl (ca 0, 11, .inl (zA mo_rules))), ((aMo 14), .inl (ca 0, 20161, .inl (zA mo_driven))), ((aMo 15), .inl (ca 0, 60, .inl (zA mo_runFrom))), ((aMo 16), .inl (ca 0, 60, .inl (zA mo_runTo)))]
def oiX11_open (Ro : Int × Int × Int) : Option Value := (some (.int (zI Ro.1)))
set_option maxRecDepth 100000 in
theorem kX11_open (l : Launch) (D : va_G) (ca : Nat → ClassId) (aMo : Nat → Nat) (mo_taped : Int) (mo_rules : Nat → Int) (mo_driven : Nat → Int) (mo_runFrom : Nat → Int) (mo_runTo : Nat → Int) (mo_size : Int) (mo_runs : Int) (mo_found : Int) (mo_counted : Int) (mo_isParted : Int) (mo_maybes : Int) (mo_days : Int) (mo_over2 : Int) (mo_longer : Int)  (Ro : Int × Int × Int)
    (hf : fX11_open mo_rules mo_driven mo_runFrom mo_runTo mo_size mo_runs mo_counted mo_isParted = some Ro) : Zc l D ca yX11_open cX11_open 4 (some .int) { frames := 1, cells := 0, slots := 0, locals := 22 } [.ref (aMo 0)] [((aMo 0), .inr (11, [.ref (aMo 1), .int (zI mo_taped), .ref (aMo 3), .ref (aMo 4), .ref (aMo 5), .ref (aMo 6), .ref (aMo 7), .ref (aMo 8), .ref (aMo 9), .ref (aMo 10), .ref (aMo 11), .ref (aMo 12), .ref (aMo 13), .ref (aMo 14), .ref (aMo 15), .ref (aMo 16), .int (zI mo_size), .int (zI mo_runs), .ref (aMo 19), .ref (aMo 20), .ref (aMo 21), .int (zI mo_found), .int (zI mo_counted), .int (zI mo_isParted), .ref (aMo 25), .ref (aMo 26), .ref (aMo 27), .ref (aMo 28), .ref (aMo 29), .int (zI mo_maybes), .int (zI mo_days), .int (zI mo_over2), .int (zI mo_longer), .ref (aMo 34)])), ((aMo 3), .inl (ca 0, 11, .inl (zA mo_rules))), ((aMo 14), .inl (ca 0, 20161, .inl (zA mo_driven))), ((aMo 15), .inl (ca 0, 60, .inl (zA mo_runFrom))), ((aMo 16), .inl (ca 0, 60, .inl (zA mo_runTo)))] (oiX11_open Ro) (oX11_open ca aMo mo_taped mo_rules mo_driven mo_runFrom mo_runTo mo_size mo_runs mo_found mo_maybes mo_days mo_over2 mo_longer Ro) := by
  refine ctr_of (lv := [(0, .ref (aMo 0))]) (by decide +kernel) (Nat.le_of_ble_eq_true rfl) rfl (fun Γ hl0 C E hnm => ?_)
  have H53 : ∀ (v1 : Int) (n53 : Nat) (v2 : Int) (v3 : Int) (mo_counted : Int) (mo_isParted : Int), zlp (fX11_open_53 v1 mo_rules mo_driven mo_runFrom mo_runTo mo_size mo_runs) n53 (v2, v3, mo_counted, mo_isParted) = some Ro → Zd D Γ 0 0 [((aMo 0), .inr (11, [.ref (aMo 1), .int (zI mo_taped), .ref (aMo 3), .ref (aMo 4), .ref (aMo 5), .ref (aMo 6), .ref (aMo 7), .ref (aMo 8), .ref (aMo 9), .ref (aMo 10), .ref (aMo 11), .ref (aMo 12), .ref (aMo 13), .ref (aMo 14), .ref (aMo 15), .ref (aMo 16), .int (zI mo_size), .int (zI mo_runs), .ref (aMo 19), .ref (aMo 20), .ref (aMo 21), .int (zI mo_found), .int (zI mo_counted), .int (zI mo_isParted), .ref (aMo 25), .ref (aMo 26), .ref (aMo 27), .ref (aMo 28), .ref (aMo 29), .int (zI mo_maybes), .int (zI mo_days), .int (zI mo_over2), .int (zI mo_longer), .ref (aMo 34)])), ((aMo 3), .inl (ca 0, 11, .inl (zA mo_rules))), ((aMo 14), .inl (ca 0, 20161, .inl (zA mo_driven))), ((aMo 15), .inl (ca 0, 60, .inl (zA mo_runFrom))), ((aMo 16), .inl (ca 0, 60, .inl (zA mo_runTo)))] 53 [(0, .ref (aMo 0)), (1, .int (zI v1)), (2, .int (zI v2)), (3, .int (zI v3))] [] := by
    intro v1
    intro n53
    induction n53 with
    | zero =>
      intro v2 v3 mo_counted mo_isParted hf
      exact zno hf
    | succ n53 ih53 =>
      have H129 : ∀ (v2 : Int) (v3 : Int) (mo_counted : Int) (mo_isParted : Int), fX11_open_129 (zlp (fX11_open_53 v1 mo_rules mo_driven mo_runFrom mo_runTo mo_size mo_runs) n53) v2 v3 mo_counted mo_isParted = some Ro → Zd D Γ 0 0 [((aMo 0), .inr (11, [.ref (aMo 1), .int (zI mo_taped), .ref (aMo 3), .ref (aMo 4), .ref (aMo 5), .ref (aMo 6), .ref (aMo 7), .ref (aMo 8), .ref (aMo 9), .ref (aMo 10), .ref (aMo 11), .ref (aMo 12), .ref (aMo 13), .ref (aMo 14), .ref (aMo 15), .ref (aMo 16), .int (zI mo_size), .int (zI mo_runs), .ref (aMo 19), .ref (aMo 20), .ref (aMo 21), .int (zI mo_found), .int (zI mo_counted), .int (zI mo_isParted), .ref (aMo 25), .ref (aMo 26), .ref (aMo 27), .ref (aMo 28), .ref (aMo 29), .int (zI mo_maybes), .int (zI mo_days), .int (zI mo_over2), .int (zI mo_longer), .ref (aMo 34)])), ((aMo 3), .inl (ca 0, 11, .inl (zA mo_rules))), ((aMo 14), .inl (ca 0, 20161, .inl (zA mo_driven))), ((aMo 15), .inl (ca 0, 60, .inl (zA mo_runFrom))), ((aMo 16), .inl (ca 0, 60, .inl (zA mo_runTo)))] 129 [(0, .ref (aMo 0)), (1, .int (zI v1)), (2, .int (zI v2)), (3, .int (zI v3))] [] := by
        intro v2 v3 mo_counted mo_isParted hf
        unfold fX11_open_129 at hf
        refine g_iinc (pc := 129) C 3 (lv' := [(3, .int (zI (v3 + 1))), (0, .ref (aMo 0)), (1, .int (zI v1)), (2, .int (zI v2))]) dX11_open_129 rfl (Nat.le_of_ble_eq_true rfl) rfl ?_
        refine g_goto (pc := 132) C (tgt := 53) dX11_open_132 (by decide) ?_
        refine g_sub [0, 1, 2, 3, 4] [1, 2, 3, 0] (by decide) rfl rfl rfl ?_
        exact ih53 _ _ _ _ hf
      intro v2 v3 mo_counted mo_isParted hf
      rw [zlp_s] at hf
      unfold fX11_open_53 at hf
      dsimp only at hf
      refine g_iload_n (pc := 53) C 3 dX11_open_53 rfl rfl ?_
      refine g_iload_n (pc := 54) C 1 dX11_open_54 rfl rfl ?_
      refine g_icmp_ge (pc := 55) C (tgt := 135) dX11_open_55 (by decide) hf (fun hf => ?_) (fun hf => ?_)
      · refine g_aload_n (pc := 135) C 0 dX11_open_135 rfl rfl ?_
        refine g_aload_n (pc := 136) C 0 dX11_open_136 rfl rfl ?_
        refine g_get (pc := 137) C zf_X11_138 0 rfl rfl dX11_open_137 ?_
        refine g_aload_n (pc := 140) C 0 dX11_open_140 rfl rfl ?_
        refine g_iload_n (pc := 141) C 2 dX11_open_141 rfl rfl ?_
        refine g_aload_n (pc := 142) C 0 dX11_open_142 rfl rfl ?_
        refine g_get (pc := 143) C zf_X11_121 0 rfl rfl dX11_open_143 ?_
        obtain ⟨r_146, hc_146, hf⟩ := Option.bind_eq_some_iff.mp hf
        refine g_callV (pc := 146) C hl0 (wr := [((aMo 3), .inl (ca 0, 11, .inl (zA mo_rules))), ((aMo 15), .inl (ca 0, 60, .inl (zA mo_runFrom))), ((aMo 16), .inl (ca 0, 60, .inl (zA mo_runTo)))]) (k' := 0) (n' := 0) (ws' := fun _ => [((aMo 3), .inl (ca 0, 11, .inl (zA mo_rules))), ((aMo 15), .inl (ca 0, 60, .inl (zA mo_runFrom))), ((aMo 16), .inl (ca 0, 60, .inl (zA mo_runTo))), ((aMo 0), .inr (11, [.ref (aMo 1), .int (zI mo_taped), .ref (aMo 3), .ref (aMo 4), .ref (aMo 5), .ref (aMo 6), .ref (aMo 7), .ref (aMo 8), .ref (aMo 9), .ref (aMo 10), .ref (aMo 11), .ref (aMo 12), .ref (aMo 13), .ref (aMo 14), .ref (aMo 15), .ref (aMo 16), .int (zI mo_size), .int (zI mo_runs), .ref (aMo 19), .ref (aMo 20), .ref (aMo 21), .int (zI mo_found), .int (zI mo_counted), .int (zI mo_isParted), .ref (aMo 25), .ref (aMo 26), .ref (aMo 27), .ref (aMo 28), .ref (aMo 29), .int (zI mo_maybes), .int (zI mo_days), .int (zI mo_over2), .int (zI mo_longer), .ref (aMo 34)])), ((aMo 14), .inl (ca 0, 20161, .inl (zA mo_driven)))]) (st' := [.int (zI r_146), .int (zI mo_counted), .ref (aMo 0)]) (kX11_driveIn l D ca aMo mo_taped mo_driven mo_size mo_runs mo_found mo_counted mo_isParted mo_maybes mo_days mo_over2 mo_longer v2 mo_size r_146 hc_146) wml_RX11_160 wim_X11_driveIn wse_X11_driveIn win_RX11 wco_X11_driveIn (nA := 2) rfl (by decide +kernel)  ⟨(Nat.le_of_ble_eq_true rfl), (Nat.le_of_ble_eq_true rfl)⟩ (Nat.le_refl _) (Nat.le_refl _) rfl (Nat.le_of_ble_eq_true rfl) dX11_open_146 0 11 rfl rfl rfl [0, 2] [1, 3, 4] rfl rfl rfl (by decide) (by decide) (by decide) rfl rfl (fun _ => rfl) rfl (fun _ => ?_)
        refine g_iadd (pc := 149) C dX11_open_149 ?_
        refine g_put (pc := 150) C zf_X11_138 tyX11 tyX11_ok nmX11 (v := .int (zI (mo_counted + r_146))) (ws' := [((aMo 3), .inl (ca 0, 11, .inl (zA mo_rules))), ((aMo 15), .inl (ca 0, 60, .inl (zA mo_runFrom))), ((aMo 16), .inl (ca 0, 60, .inl (zA mo_runTo))), ((aMo 0), .inr (11, [.ref (aMo 1), .int (zI mo_taped), .ref (aMo 3), .ref (aMo 4), .ref (aMo 5), .ref (aMo 6), .ref (aMo 7), .ref (aMo 8), .ref (aMo 9), .ref (aMo 10), .ref (aMo 11), .ref (aMo 12), .ref (aMo 13), .ref (aMo 14), .ref (aMo 15), .ref (aMo 16), .int (zI mo_size), .int (zI mo_runs), .ref (aMo 19), .ref (aMo 20), .ref (aMo 21), .int (zI mo_found), .int (zI (mo_counted + r_146)), .int (zI mo_isParted), .ref (aMo 25), .ref (aMo 26), .ref (aMo 27), .ref (aMo 28), .ref (aMo 29), .int (zI mo_maybes), .int (zI mo_days), .int (zI mo_over2), .int (zI mo_longer), .ref (aMo 34)])), ((aMo 14), .inl (ca 0, 20161, .inl (zA mo_driven)))]) 3 rfl rfl rfl rfl rfl (Nat.le_of_ble_eq_true rfl) rfl rfl dX11_open_150 ?_
        refine g_iload_n (pc := 153) C 1 dX11_open_153 rfl rfl ?_
        refine g_aload_n (pc := 154) C 0 dX11_open_154 rfl rfl ?_
        refine g_get (pc := 155) C zf_X11_128 3 rfl rfl dX11_open_155 ?_
        refine g_icmp_ge (pc := 158) C (tgt := 169) dX11_open_158 (by decide) hf (fun hf => ?_) (fun hf => ?_)
        · refine g_iconst (pc := 169) C dX11_open_169 ?_
          exact g_iret (pc := 170) C hf E rfl (fun _ => 0) [3, 0, 4, 1, 2] (by decide) rfl rfl (Nat.le_refl _) (Nat.le_refl _) dX11_open_170
        · refine g_aload_n (pc := 161) C 0 dX11_open_161 rfl rfl ?_
          refine g_iload_n (pc := 162) C 1 dX11_open_162 rfl rfl ?_
          obtain ⟨r_163, hc_163, hf⟩ := Option.bind_eq_some_iff.mp hf
          refine g_callV (pc := 163) C hl0 (wr := [((aMo 3), .inl (ca 0, 11, .inl (zA mo_rules))), ((aMo 14), .inl (ca 0, 20161, .inl (zA mo_driven)))]) (k' := 0) (n' := 0) (ws' := fun _ => [((aMo 3), .inl (ca 0, 11, .inl (zA mo_rules))), ((aMo 14), .inl (ca 0, 20161, .inl (zA mo_driven))), ((aMo 0), .inr (11, [.ref (aMo 1), .int (zI mo_taped), .ref (aMo 3), .ref (aMo 4), .ref (aMo 5), .ref (aMo 6), .ref (aMo 7), .ref (aMo 8), .ref (aMo 9), .ref (aMo 10), .ref (aMo 11), .ref (aMo 12), .ref (aMo 13), .ref (aMo 14), .ref (aMo 15), .ref (aMo 16), .int (zI mo_size), .int (zI mo_runs), .ref (aMo 19), .ref (aMo 20), .ref (aMo 21), .int (zI mo_found), .int (zI (mo_counted + r_146)), .int (zI mo_isParted), .ref (aMo 25), .ref (aMo 26), .ref (aMo 27), .ref (aMo 28), .ref (aMo 29), .int (zI mo_maybes), .int (zI mo_days), .int (zI mo_over2), .int (zI mo_longer), .ref (aMo 34)])), ((aMo 15), .inl (ca 0, 60, .inl (zA mo_runFrom))), ((aMo 16), .inl (ca 0, 60, .inl (zA mo_runTo)))]) (st' := [.int (zI r_163)]) (kX11_runLength l D ca aMo mo_taped mo_runFrom mo_runTo mo_size mo_runs mo_found (mo_counted + r_146) mo_isParted mo_maybes mo_days mo_over2 mo_longer v1 r_163 hc_163) wml_RX11_141 wim_X11_runLength wse_X11_runLength win_RX11 wco_X11_runLength (nA := 1) rfl (by decide +kernel)  ⟨(Nat.le_of_ble_eq_true rfl), (Nat.le_of_ble_eq_true rfl)⟩ (Nat.le_refl _) (Nat.le_refl _) rfl (Nat.le_of_ble_eq_true rfl) dX11_open_163 3 11 rfl rfl rfl [3, 1, 2] [0, 4] rfl rfl rfl (by decide) (by decide) (by decide) rfl rfl (fun _ => rfl) rfl (fun _ => ?_)
          refine g_goto (pc := 166) C (tgt := 170) dX11_open_166 (by decide) ?_
          exact g_iret (pc := 170) C hf E rfl (fun _ => 0) [2, 0, 1, 3, 4] (by decide) rfl rfl (Nat.le_refl _) (Nat.le_refl _) dX11_open_170
      · refine g_aload_n (pc := 58) C 0 dX11_open_58 rfl rfl ?_
        refine g_aload_n (pc := 59) C 0 dX11_open_59 rfl rfl ?_
        refine g_get (pc := 60) C zf_X11_138 0 rfl rfl dX11_open_60 ?_
        refine g_aload_n (pc := 63) C 0 dX11_open_63 rfl rfl ?_
        refine g_iload_n (pc := 64) C 2 dX11_open_64 rfl rfl ?_
        refine g_aload_n (pc := 65) C 0 dX11_open_65 rfl rfl ?_
        refine g_get (pc := 66) C zf_X11_53 0 rfl rfl dX11_open_66 ?_
        refine g_iload_n (pc := 69) C 3 dX11_open_69 rfl rfl ?_
        refine g_iald (pc := 70) C (N := 60) 4 rfl rfl (Nat.le_of_ble_eq_true rfl) dX11_open_70 hf (fun hf => ?_)
        obtain ⟨r_71, hc_71, hf⟩ := Option.bind_eq_some_iff.mp hf
        refine g_callV (pc := 71) C hl0 (wr := [((aMo 3), .inl (ca 0, 11, .inl (zA mo_rules))), ((aMo 15), .inl (ca 0, 60, .inl (zA mo_runFrom))), ((aMo 16), .inl (ca 0, 60, .inl (zA mo_runTo)))]) (k' := 0) (n' := 0) (ws' := fun _ => [((aMo 3), .inl (ca 0, 11, .inl (zA mo_rules))), ((aMo 15), .inl (ca 0, 60, .inl (zA mo_runFrom))), ((aMo 16), .inl (ca 0, 60, .inl (zA mo_runTo))), ((aMo 0), .inr (11, [.ref (aMo 1), .int (zI mo_taped), .ref (aMo 3), .ref (aMo 4), .ref (aMo 5), .ref (aMo 6), .ref (aMo 7), .ref (aMo 8), .ref (aMo 9), .ref (aMo 10), .ref (aMo 11), .ref (aMo 12), .ref (aMo 13), .ref (aMo 14), .ref (aMo 15), .ref (aMo 16), .int (zI mo_size), .int (zI mo_runs), .ref (aMo 19), .ref (aMo 20), .ref (aMo 21), .int (zI mo_found), .int (zI mo_counted), .int (zI mo_isParted), .ref (aMo 25), .ref (aMo 26), .ref (aMo 27), .ref (aMo 28), .ref (aMo 29), .int (zI mo_maybes), .int (zI mo_days), .int (zI mo_over2), .int (zI mo_longer), .ref (aMo 34)])), ((aMo 14), .inl (ca 0, 20161, .inl (zA mo_driven)))]) (st' := [.int (zI r_71), .int (zI mo_counted), .ref (aMo 0)]) (kX11_driveIn l D ca aMo mo_taped mo_driven mo_size mo_runs mo_found mo_counted mo_isParted mo_maybes mo_days mo_over2 mo_longer v2 (mo_runTo v3.toNat) r_71 hc_71) wml_RX11_160 wim_X11_driveIn wse_X11_driveIn win_RX11 wco_X11_driveIn (nA := 2) rfl (by decide +kernel)  ⟨(Nat.le_of_ble_eq_true rfl), (Nat.le_of_ble_eq_true rfl)⟩ (Nat.le_refl _) (Nat.le_refl _) rfl (Nat.le_of_ble_eq_true rfl) dX11_open_71 0 11 rfl rfl rfl [0, 2] [1, 3, 4] rfl rfl rfl (by decide) (by decide) (by decide) rfl rfl (fun _ => rfl) rfl (fun _ => ?_)
        refine g_iadd (pc := 74) C dX11_open_74 ?_
        refine g_put (pc := 75) C zf_X11_138 tyX11 tyX11_ok nmX11 (v := .int (zI (mo_counted + r_71))) (ws' := [((aMo 3), .inl (ca 0, 11, .inl (zA mo_rules))), ((aMo 15), .inl (ca 0, 60, .inl (zA mo_runFrom))), ((aMo 16), .inl (ca 0, 60, .inl (zA mo_runTo))), ((aMo 0), .inr (11, [.ref (aMo 1), .int (zI mo_taped), .ref (aMo 3), .ref (aMo 4), .ref (aMo 5), .ref (aMo 6), .ref (aMo 7), .ref (aMo 8), .ref (aMo 9), .ref (aMo 10), .ref (aMo 11), .ref (aMo 12), .ref (aMo 13), .ref (aMo 14), .ref (aMo 15), .ref (aMo 16), .int (zI mo_size), .int (zI mo_runs), .ref (aMo 19), .ref (aMo 20), .ref (aMo 21), .int (zI mo_found), .int (zI (mo_counted + r_71)), .int (zI mo_isParted), .ref (aMo 25), .ref (aMo 26), .ref (aMo 27), .ref (aMo 28), .ref (aMo 29), .int (zI mo_maybes), .int (zI mo_days), .int (zI mo_over2), .int (zI mo_longer), .ref (aMo 34)])), ((aMo 14), .inl (ca 0, 20161, .inl (zA mo_driven)))]) 3 rfl rfl rfl rfl rfl (Nat.le_of_ble_eq_true rfl) rfl rfl dX11_open_75 ?_
        refine g_aload_n (pc := 78) C 0 dX11_open_78 rfl rfl ?_
        refine g_get (pc := 79) C zf_X11_53 3 rfl rfl dX11_open_79 ?_
        refine g_iload_n (pc := 82) C 3 dX11_open_82 rfl rfl ?_
        refine g_iald (pc := 83) C (N := 60) 2 rfl rfl (Nat.le_of_ble_eq_true rfl) dX11_open_83 hf (fun hf => ?_)
        refine g_istore_n (pc := 84) C (lv' := [(2, .int (zI (mo_runTo v3.toNat))), (0, .ref (aMo 0)), (1, .int (zI v1)), (3, .int (zI v3))]) dX11_open_84 rfl (Nat.le_of_ble_eq_true rfl) rfl ?_
        refine g_aload_n (pc := 85) C 1 dX11_open_85 rfl rfl ?_
        refine g_aload_n (pc := 86) C 1 dX11_open_86 rfl rfl ?_
        refine g_iload_n (pc := 87) C 3 dX11_open_87 rfl rfl ?_
        obtain ⟨r_88, hc_88, hf⟩ := Option.bind_eq_some_iff.mp hf
        refine g_callV (pc := 88) C hl0 (wr := [((aMo 3), .inl (ca 0, 11, .inl (zA mo_rules))), ((aMo 14), .inl (ca 0, 20161, .inl (zA mo_driven)))]) (k' := 0) (n' := 0) (ws' := fun _ => [((aMo 3), .inl (ca 0, 11, .inl (zA mo_rules))), ((aMo 14), .inl (ca 0, 20161, .inl (zA mo_driven))), ((aMo 0), .inr (11, [.ref (aMo 1), .int (zI mo_taped), .ref (aMo 3), .ref (aMo 4), .ref (aMo 5), .ref (aMo 6), .ref (aMo 7), .ref (aMo 8), .ref (aMo 9), .ref (aMo 10), .ref (aMo 11), .ref (aMo 12), .ref (aMo 13), .ref (aMo 14), .ref (aMo 15), .ref (aMo 16), .int (zI mo_size), .int (zI mo_runs), .ref (aMo 19), .ref (aMo 20), .ref (aMo 21), .int (zI mo_found), .int (zI (mo_counted + r_71)), .int (zI mo_isParted), .ref (aMo 25), .ref (aMo 26), .ref (aMo 27), .ref (aMo 28), .ref (aMo 29), .int (zI mo_maybes), .int (zI mo_days), .int (zI mo_over2), .int (zI mo_longer), .ref (aMo 34)])), ((aMo 15), .inl (ca 0, 60, .inl (zA mo_runFrom))), ((aMo 16), .inl (ca 0, 60, .inl (zA mo_runTo)))]) (st' := [.int (zI r_88), .ref (aMo 0)]) (kX11_runLength l D ca aMo mo_taped mo_runFrom mo_runTo mo_size mo_runs mo_found (mo_counted + r_71) mo_isParted mo_maybes mo_days mo_over2 mo_longer v3 r_88 hc_88) wml_RX11_141 wim_X11_runLength wse_X11_runLength win_RX11 wco_X11_runLength (nA := 1) rfl (by decide +kernel)  ⟨(Nat.le_of_ble_eq_true rfl), (Nat.le_of_ble_eq_true rfl)⟩ (Nat.le_refl _) (Nat.le_refl _) rfl (Nat.le_of_ble_eq_true rfl) dX11_open_88 3 11 rfl rfl rfl [3, 1, 2] [0, 4] rfl rfl rfl (by decide) (by decide) (by decide) rfl rfl (fun _ => rfl) rfl (fun _ => ?_)
        obtain ⟨r_91, hc_91, hf⟩ := Option.bind_eq_some_iff.mp hf
        refine g_callV (pc := 91) C hl0 (wr := [((aMo 14), .inl (ca 0, 20161, .inl (zA mo_driven))), ((aMo 15), .inl (ca 0, 60, .inl (zA mo_runFrom))), ((aMo 16), .inl (ca 0, 60, .inl (zA mo_runTo)))]) (k' := 0) (n' := 0) (ws' := fun _ => [((aMo 14), .inl (ca 0, 20161, .inl (zA mo_driven))), ((aMo 15), .inl (ca 0, 60, .inl (zA mo_runFrom))), ((aMo 16), .inl (ca 0, 60, .inl (zA mo_runTo))), ((aMo 0), .inr (11, [.ref (aMo 1), .int (zI mo_taped), .ref (aMo 3), .ref (aMo 4), .ref (aMo 5), .ref (aMo 6), .ref (aMo 7), .ref (aMo 8), .ref (aMo 9), .ref (aMo 10), .ref (aMo 11), .ref (aMo 12), .ref (aMo 13), .ref (aMo 14), .ref (aMo 15), .ref (aMo 16), .int (zI mo_size), .int (zI mo_runs), .ref (aMo 19), .ref (aMo 20), .ref (aMo 21), .int (zI mo_found), .int (zI (mo_counted + r_71)), .int (zI mo_isParted), .ref (aMo 25), .ref (aMo 26), .ref (aMo 27), .ref (aMo 28), .ref (aMo 29), .int (zI mo_maybes), .int (zI mo_days), .int (zI mo_over2), .int (zI mo_longer), .ref (aMo 34)])), ((aMo 3), .inl (ca 0, 11, .inl (zA mo_rules)))]) (st' := [.int (zI r_91)]) (kX11_resets l D ca aMo mo_taped mo_rules mo_size mo_runs mo_found (mo_counted + r_71) mo_isParted mo_maybes mo_days mo_over2 mo_longer r_88 r_91 hc_91) wml_RX11_144 wim_X11_resets wse_X11_resets win_RX11 wco_X11_resets (nA := 1) rfl (by decide +kernel)  ⟨(Nat.le_of_ble_eq_true rfl), (Nat.le_of_ble_eq_true rfl)⟩ (Nat.le_refl _) (Nat.le_refl _) rfl (Nat.le_of_ble_eq_true rfl) dX11_open_91 2 11 rfl rfl rfl [2, 0] [1, 3, 4] rfl rfl rfl (by decide) (by decide) (by decide) rfl rfl (fun _ => rfl) rfl (fun _ => ?_)
        refine g_if_eq (pc := 94) C (tgt := 110) dX11_open_94 (by decide) hf (fun hf => ?_) (fun hf => ?_)
        · refine g_aload_n (pc := 110) C 1 dX11_open_110 rfl rfl ?_
          refine g_iload_n (pc := 111) C 3 dX11_open_111 rfl rfl ?_
          obtain ⟨r_112, hc_112, hf⟩ := Option.bind_eq_some_iff.mp hf
          refine g_callV (pc := 112) C hl0 (wr := [((aMo 14), .inl (ca 0, 20161, .inl (zA mo_driven))), ((aMo 3), .inl (ca 0, 11, .inl (zA mo_rules)))]) (k' := 0) (n' := 0) (ws' := fun _ => [((aMo 14), .inl (ca 0, 20161, .inl (zA mo_driven))), ((aMo 3), .inl (ca 0, 11, .inl (zA mo_rules))), ((aMo 0), .inr (11, [.ref (aMo 1), .int (zI mo_taped), .ref (aMo 3), .ref (aMo 4), .ref (aMo 5), .ref (aMo 6), .ref (aMo 7), .ref (aMo 8), .ref (aMo 9), .ref (aMo 10), .ref (aMo 11), .ref (aMo 12), .ref (aMo 13), .ref (aMo 14), .ref (aMo 15), .ref (aMo 16), .int (zI mo_size), .int (zI mo_runs), .ref (aMo 19), .ref (aMo 20), .ref (aMo 21), .int (zI mo_found), .int (zI (mo_counted + r_71)), .int (zI mo_isParted), .ref (aMo 25), .ref (aMo 26), .ref (aMo 27), .ref (aMo 28), .ref (aMo 29), .int (zI mo_maybes), .int (zI mo_days), .int (zI mo_over2), .int (zI mo_longer), .ref (aMo 34)])), ((aMo 15), .inl (ca 0, 60, .inl (zA mo_runFrom))), ((aMo 16), .inl (ca 0, 60, .inl (zA mo_runTo)))]) (st' := [.int (zI r_112)]) (kX11_runLength l D ca aMo mo_taped mo_runFrom mo_runTo mo_size mo_runs mo_found (mo_counted + r_71) mo_isParted mo_maybes mo_days mo_over2 mo_longer v3 r_112 hc_112) wml_RX11_141 wim_X11_runLength wse_X11_runLength win_RX11 wco_X11_runLength (nA := 1) rfl (by decide +kernel)  ⟨(Nat.le_of_ble_eq_true rfl), (Nat.le_of_ble_eq_true rfl)⟩ (Nat.le_refl _) (Nat.le_refl _) rfl (Nat.le_of_ble_eq_true rfl) dX11_open_112 3 11 rfl rfl rfl [3, 1, 2] [0, 4] rfl rfl rfl (by decide) (by decide) (by decide) rfl rfl (fun _ => rfl) rfl (fun _ => ?_)
          refine g_aload_n (pc := 115) C 1 dX11_open_115 rfl rfl ?_
          refine g_get (pc := 116) C zf_X11_13 2 rfl rfl dX11_open_116 ?_
          refine g_iconst (pc := 119) C dX11_open_119 ?_
          refine g_ialdK (pc := 120) C 2 1 rfl rfl (Nat.le_of_ble_eq_true rfl) (Nat.le_of_ble_eq_true rfl) dX11_open_120 ?_
          refine g_icmp_lt (pc := 121) C (tgt := 129) dX11_open_121 (by decide) hf (fun hf => ?_) (fun hf => ?_)
          · refine g_sub [2, 1, 0, 3, 4] [1, 2, 0, 3] (by decide) rfl rfl rfl ?_
            exact H129 _ _ _ _ hf
          · refine g_aload_n (pc := 124) C 1 dX11_open_124 rfl rfl ?_
            refine g_iconst (pc := 125) C dX11_open_125 ?_
            refine g_put (pc := 126) C zf_X11_134 tyX11 tyX11_ok nmX11 (v := .int (zI 1)) (ws' := [((aMo 14), .inl (ca 0, 20161, .inl (zA mo_driven))), ((aMo 3), .inl (ca 0, 11, .inl (zA mo_rules))), ((aMo 0), .inr (11, [.ref (aMo 1), .int (zI mo_taped), .ref (aMo 3), .ref (aMo 4), .ref (aMo 5), .ref (aMo 6), .ref (aMo 7), .ref (aMo 8), .ref (aMo 9), .ref (aMo 10), .ref (aMo 11), .ref (aMo 12), .ref (aMo 13), .ref (aMo 14), .ref (aMo 15), .ref (aMo 16), .int (zI mo_size), .int (zI mo_runs), .ref (aMo 19), .ref (aMo 20), .ref (aMo 21), .int (zI mo_found), .int (zI (mo_counted + r_71)), .int (zI 1), .ref (aMo 25), .ref (aMo 26), .ref (aMo 27), .ref (aMo 28), .ref (aMo 29), .int (zI mo_maybes), .int (zI mo_days), .int (zI mo_over2), .int (zI mo_longer), .ref (aMo 34)])), ((aMo 15), .inl (ca 0, 60, .inl (zA mo_runFrom))), ((aMo 16), .inl (ca 0, 60, .inl (zA mo_runTo)))]) 2 rfl rfl rfl (by decide) (by decide) (Nat.le_of_ble_eq_true rfl) rfl rfl dX11_open_126 ?_
            refine g_sub [2, 1, 0, 3, 4] [1, 2, 0, 3] (by decide) rfl rfl rfl ?_
            exact H129 _ _ _ _ hf
        · refine g_aload_n (pc := 97) C 1 dX11_open_97 rfl rfl ?_
          refine g_iconst (pc := 98) C dX11_open_98 ?_
          refine g_put (pc := 99) C zf_X11_138 tyX11 tyX11_ok nmX11 (v := .int (zI 0)) (ws' := [((aMo 14), .inl (ca 0, 20161, .inl (zA mo_driven))), ((aMo 15), .inl (ca 0, 60, .inl (zA mo_runFrom))), ((aMo 16), .inl (ca 0, 60, .inl (zA mo_runTo))), ((aMo 0), .inr (11, [.ref (aMo 1), .int (zI mo_taped), .ref (aMo 3), .ref (aMo 4), .ref (aMo 5), .ref (aMo 6), .ref (aMo 7), .ref (aMo 8), .ref (aMo 9), .ref (aMo 10), .ref (aMo 11), .ref (aMo 12), .ref (aMo 13), .ref (aMo 14), .ref (aMo 15), .ref (aMo 16), .int (zI mo_size), .int (zI mo_runs), .ref (aMo 19), .ref (aMo 20), .ref (aMo 21), .int (zI mo_found), .int (zI 0), .int (zI mo_isParted), .ref (aMo 25), .ref (aMo 26), .ref (aMo 27), .ref (aMo 28), .ref (aMo 29), .int (zI mo_maybes), .int (zI mo_days), .int (zI mo_over2), .int (zI mo_longer), .ref (aMo 34)])), ((aMo 3), .inl (ca 0, 11, .inl (zA mo_rules)))]) 3 rfl rfl rfl rfl rfl (Nat.le_of_ble_eq_true rfl) rfl rfl dX11_open_99 ?_
          refine g_aload_n (pc := 102) C 1 dX11_open_102 rfl rfl ?_
          refine g_iconst (pc := 103) C dX11_open_103 ?_
          refine g_put (pc := 104) C zf_X11_134 tyX11 tyX11_ok nmX11 (v := .int (zI 0)) (ws' := [((aMo 14), .inl (ca 0, 20161, .inl (zA mo_driven))), ((aMo 15), .inl (ca 0, 60, .inl (zA mo_runFrom))), ((aMo 16), .inl (ca 0, 60, .inl (zA mo_runTo))), ((aMo 0), .inr (11, [.ref (aMo 1), .int (zI mo_taped), .ref (aMo 3), .ref (aMo 4), .ref (aMo 5), .ref (aMo 6), .ref (aMo 7), .ref (aMo 8), .ref (aMo 9), .ref (aMo 10), .ref (aMo 11), .ref (aMo 12), .ref (aMo 13), .ref (aMo 14), .ref (aMo 15), .ref (aMo 16), .int (zI mo_size), .int (zI mo_runs), .ref (aMo 19), .ref (aMo 20), .ref (aMo 21), .int (zI mo_found), .int (zI 0), .int (zI 0), .ref (aMo 25), .ref (aMo 26), .ref (aMo 27), .ref (aMo 28), .ref (aMo 29), .int (zI mo_maybes), .int (zI mo_days), .int (zI mo_over2), .int (zI mo_longer), .ref (aMo 34)])), ((aMo 3), .inl (ca 0, 11, .inl (zA mo_rules)))]) 3 rfl rfl rfl (by decide) (by decide) (Nat.le_of_ble_eq_true rfl) rfl rfl dX11_open_104 ?_
          refine g_goto (pc := 107) C (tgt := 129) dX11_open_107 (by decide) ?_
          refine g_sub [3, 4, 0, 1, 2] [1, 2, 0, 3] (by decide) rfl rfl rfl ?_
          exact H129 _ _ _ _ hf
  have H38 : ∀ (s0 : Int) (mo_counted : Int) (mo_isParted : Int), fX11_open_38 s0 mo_rules mo_driven mo_runFrom mo_runTo mo_size mo_runs = some Ro → Zd D Γ 0 0 [((aMo 0), .inr (11, [.ref (aMo 1), .int (zI mo_taped), .ref (aMo 3), .ref (aMo 4), .ref (aMo 5), .ref (aMo 6), .ref (aMo 7), .ref (aMo 8), .ref (aMo 9), .ref (aMo 10), .ref (aMo 11), .ref (aMo 12), .ref (aMo 13), .ref (aMo 14), .ref (aMo 15), .ref (aMo 16), .int (zI mo_size), .int (zI mo_runs), .ref (aMo 19), .ref (aMo 20), .ref (aMo 21), .int (zI mo_found), .int (zI mo_counted), .int (zI mo_isParted), .ref (aMo 25), .ref (aMo 26), .ref (aMo 27), .ref (aMo 28), .ref (aMo 29), .int (zI mo_maybes), .int (zI mo_days), .int (zI mo_over2), .int (zI mo_longer), .ref (aMo 34)])), ((aMo 3), .inl (ca 0, 11, .inl (zA mo_rules))), ((aMo 14), .inl (ca 0, 20161, .inl (zA mo_driven))), ((aMo 15), .inl (ca 0, 60, .inl (zA mo_runFrom))), ((aMo 16), .inl (ca 0, 60, .inl (zA mo_runTo)))] 38 [(0, .ref (aMo 0))] [.int (zI s0)] := by
    intro s0 mo_counted mo_isParted hf
    unfold fX11_open_38 at hf
    refine g_istore_n (pc := 38) C (lv' := [(1, .int (zI s0)), (0, .ref (aMo 0))]) dX11_open_38 rfl (Nat.le_of_ble_eq_true rfl) rfl ?_
    refine g_iconst (pc := 39) C dX11_open_39 ?_
    refine g_istore_n (pc := 40) C (lv' := [(2, .int (zI 0)), (1, .int (zI s0)), (0, .ref (aMo 0))]) dX11_open_40 rfl (Nat.le_of_ble_eq_true rfl) rfl ?_
    refine g_aload_n (pc := 41) C 2 dX11_open_41 rfl rfl ?_
    refine g_iconst (pc := 42) C dX11_open_42 ?_
    refine g_put (pc := 43) C zf_X11_138 tyX11 tyX11_ok nmX11 (v := .int (zI 0)) (ws' := [((aMo 0), .inr (11, [.ref (aMo 1), .int (zI mo_taped), .ref (aMo 3), .ref (aMo 4), .ref (aMo 5), .ref (aMo 6), .ref (aMo 7), .ref (aMo 8), .ref (aMo 9), .ref (aMo 10), .ref (aMo 11), .ref (aMo 12), .ref (aMo 13), .ref (aMo 14), .ref (aMo 15), .ref (aMo 16), .int (zI mo_size), .int (zI mo_runs), .ref (aMo 19), .ref (aMo 20), .ref (aMo 21), .int (zI mo_found), .int (zI 0), .int (zI mo_isParted), .ref (aMo 25), .ref (aMo 26), .ref (aMo 27), .ref (aMo 28), .ref (aMo 29), .int (zI mo_maybes), .int (zI mo_days), .int (zI mo_over2), .int (zI mo_longer), .ref (aMo 34)])), ((aMo 3), .inl (ca 0, 11, .inl (zA mo_rules))), ((aMo 14), .inl (ca 0, 20161, .inl (zA mo_driven))), ((aMo 15), .inl (ca 0, 60, .inl (zA mo_runFrom))), ((aMo 16), .inl (ca 0, 60, .inl (zA mo_runTo)))]) 0 rfl rfl rfl rfl rfl (Nat.le_of_ble_eq_true rfl) rfl rfl dX11_open_43 ?_
    refine g_aload_n (pc := 46) C 2 dX11_open_46 rfl rfl ?_
    refine g_iconst (pc := 47) C dX11_open_47 ?_
    refine g_put (pc := 48) C zf_X11_134 tyX11 tyX11_ok nmX11 (v := .int (zI 0)) (ws' := [((aMo 0), .inr (11, [.ref (aMo 1), .int (zI mo_taped), .ref (aMo 3), .ref (aMo 4), .ref (aMo 5), .ref (aMo 6), .ref (aMo 7), .ref (aMo 8), .ref (aMo 9), .ref (aMo 10), .ref (aMo 11), .ref (aMo 12), .ref (aMo 13), .ref (aMo 14), .ref (aMo 15), .ref (aMo 16), .int (zI mo_size), .int (zI mo_runs), .ref (aMo 19), .ref (aMo 20), .ref (aMo 21), .int (zI mo_found), .int (zI 0), .int (zI 0), .ref (aMo 25), .ref (aMo 26), .ref (aMo 27), .ref (aMo 28), .ref (aMo 29), .int (zI mo_maybes), .int (zI mo_days), .int (zI mo_over2), .int (zI mo_longer), .ref (aMo 34)])), ((aMo 3), .inl (ca 0, 11, .inl (zA mo_rules))), ((aMo 14), .inl (ca 0, 20161, .inl (zA mo_driven))), ((aMo 15), .inl (ca 0, 60, .inl (zA mo_runFrom))), ((aMo 16), .inl (ca 0, 60, .inl (zA mo_runTo)))]) 0 rfl rfl rfl (by decide) (by decide) (Nat.le_of_ble_eq_true rfl) rfl rfl dX11_open_48 ?_
    refine g_iconst (pc := 51) C dX11_open_51 ?_
    refine g_istore_n (pc := 52) C (lv' := [(3, .int (zI 0)), (2, .int (zI 0)), (1, .int (zI s0)), (0, .ref (aMo 0))]) dX11_open_52 rfl (Nat.le_of_ble_eq_true rfl) rfl ?_
    refine g_sub [0, 1, 2, 3, 4] [3, 2, 1, 0] (by decide) rfl rfl rfl ?_
    exact H53 _ _ _ _ _ _ hf
  have H34 : ∀ (mo_counted : Int) (mo_isParted : Int), fX11_open_34 mo_rules mo_driven mo_runFrom mo_runTo mo_size mo_runs = some Ro → Zd D Γ 0 0 [((aMo 0), .inr (11, [.ref (aMo 1), .int (zI mo_taped), .ref (aMo 3), .ref (aMo 4), .ref (aMo 5), .ref (aMo 6), .ref (aMo 7), .ref (aMo 8), .ref (aMo 9), .ref (aMo 10), .ref (aMo 11), .ref (aMo 12), .ref (aMo 13), .ref (aMo 14), .ref (aMo 15), .ref (aMo 16), .int (zI mo_size), .int (zI mo_runs), .ref (aMo 19), .ref (aMo 20), .ref (aMo 21), .int (zI mo_found), .int (zI mo_counted), .int (zI mo_isParted), .ref (aMo 25), .ref (aMo 26), .ref (aMo 27), .ref (aMo 28), .ref (aMo 29), .int (zI mo_maybes), .int (zI mo_days), .int (zI mo_over2), .int (zI mo_longer), .ref (aMo 34)])), ((aMo 3), .inl (ca 0, 11, .inl (zA mo_rules))), ((aMo 14), .inl (ca 0, 20161, .inl (zA mo_driven))), ((aMo 15), .inl (ca 0, 60, .inl (zA mo_runFrom))), ((aMo 16), .inl (ca 0, 60, .inl (zA mo_runTo)))] 34 [(0, .ref (aMo 0))] [] := by
    intro mo_counted mo_isParted hf
    unfold fX11_open_34 at hf
    refine g_aload_n (pc := 34) C 0 dX11_open_34 rfl rfl ?_
    refine g_get (pc := 35) C zf_X11_128 0 rfl rfl dX11_open_35 ?_
    exact H38 _ _ _ hf
  unfold fX11_open at hf
  refine g_aload_n (pc := 0) C 0 dX11_open_0 rfl rfl ?_
  refine g_get (pc := 1) C zf_X11_128 0 rfl rfl dX11_open_1 ?_
  refine g_if_le (pc := 4) C (tgt := 34) dX11_open_4 (by decide) hf (fun hf => ?_) (fun hf => ?_)
  · exact H34 _ _ hf
  · refine g_aload_n (pc := 7) C 0 dX11_open_7 rfl rfl ?_
    refine g_get (pc := 8) C zf_X11_53 0 rfl rfl dX11_open_8 ?_
    refine g_aload_n (pc := 11) C 0 dX11_open_11 rfl rfl ?_
    refine g_get (pc := 12) C zf_X11_128 0 rfl rfl dX11_open_12 ?_
    refine g_iconst (pc := 15) C dX11_open_15 ?_
    refine g_isub (pc := 16) C dX11_open_16 ?_
    refine g_iald (pc := 17) C (N := 60) 4 rfl rfl (Nat.le_of_ble_eq_true rfl) dX11_open_17 hf (fun hf => ?_)
    refine g_aload_n (pc := 18) C 0 dX11_open_18 rfl rfl ?_
    refine g_get (pc := 19) C zf_X11_121 0 rfl rfl dX11_open_19 ?_
    refine g_icmp_ne (pc := 22) C (tgt := 34) dX11_open_22 (by decide) hf (fun hf => ?_) (fun hf => ?_)
    · exact H34 _ _ hf
    · refine g_aload_n (pc := 25) C 0 dX11_open_25 rfl rfl ?_
      refine g_get (pc := 26) C zf_X11_128 0 rfl rfl dX11_open_26 ?_
      refine g_iconst (pc := 29) C dX11_open_29 ?_
      refine g_isub (pc := 30) C dX11_open_30 ?_
      refine g_goto (pc := 31) C (tgt := 38) dX11_open_31 (by decide) ?_
      exact H38 _ _ _ hf
