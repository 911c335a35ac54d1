def oX11_finds (ca : Nat → ClassId) (aMo : Nat → Nat) (mo_taped : Int) (mo_rules : Nat → Int) (mo_runFrom : Nat → Int) (mo_runTo : Nat → Int) (mo_size : Int) (mo_runs : Int) (mo_found : Int) (mo_counted : Int) (mo_isParted : Int) (mo_days : Int) (mo_over2 : Int) (mo_longer : Int) (Ro : (Nat → Int) × Int) : (Nat → Nat) → va_W := fun _ => [((aMo 0), .inr (11, [.ref (aMo 1), .int (zI mo_taped), .ref (aMo 3), .ref (aMo 4), .ref (aMo 5), .ref (aMo 6), .ref (aMo 7), .ref (aMo 8), .ref (aMo 9), .ref (aMo 10), .ref (aMo 11), .ref (aMo 12), .ref (aMo 13), .ref (aMo 14), .ref (aMo 15), .ref (aMo 16), .int (zI mo_size), .int (zI mo_runs), .ref (aMo 19), .ref (aMo 20), .ref (aMo 21), .int (zI mo_found), .int (zI mo_counted), .int (zI mo_isParted), .ref (aMo 25), .ref (aMo 26), .ref (aMo 27), .ref (aMo 28), .ref (aMo 29), .int (zI (Ro.2)), .int (zI mo_days), .int (zI mo_over2), .int (zI mo_longer), .ref (aMo 34)])), ((aMo 3), .inl (ca 0, 11, .inl (zA mo_rules))), ((aMo 15), .inl (ca 0, 60, .inl (zA mo_runFrom))), ((aMo 16), .inl (ca 0, 60, .inl (zA mo_runTo))), ((aMo 25), .inl (ca 0, 12, .inl (zA (Ro.1))))]
def oiX11_finds (Ro : (Nat → Int) × Int) : Option Value := none
set_option maxRecDepth 100000 in
theorem kX11_finds (l : Launch) (D : va_G) (ca : Nat → ClassId) (aMo : Nat → Nat) (mo_taped : Int) (mo_rules : Nat → Int) (mo_runFrom : Nat → Int) (mo_runTo : Nat → Int) (mo_size : Int) (mo_runs : Int) (mo_found : Int) (mo_counted : Int) (mo_isParted : Int) (mo_maybe : Nat → Int) (mo_maybes : Int) (mo_days : Int) (mo_over2 : Int) (mo_longer : Int)  (Ro : (Nat → Int) × Int)
    (hf : fX11_finds mo_rules mo_runFrom mo_runTo mo_runs mo_maybe mo_maybes = some Ro) : Zc l D ca yX11_finds cX11_finds 2 none { frames := 1, cells := 0, slots := 0, locals := 21 } [.ref (aMo 0)] [((aMo 0), .inr (11, [.ref (aMo 1), .int (zI mo_taped), .ref (aMo 3), .ref (aMo 4), .ref (aMo 5), .ref (aMo 6), .ref (aMo 7), .ref (aMo 8), .ref (aMo 9), .ref (aMo 10), .ref (aMo 11), .ref (aMo 12), .ref (aMo 13), .ref (aMo 14), .ref (aMo 15), .ref (aMo 16), .int (zI mo_size), .int (zI mo_runs), .ref (aMo 19), .ref (aMo 20), .ref (aMo 21), .int (zI mo_found), .int (zI mo_counted), .int (zI mo_isParted), .ref (aMo 25), .ref (aMo 26), .ref (aMo 27), .ref (aMo 28), .ref (aMo 29), .int (zI mo_maybes), .int (zI mo_days), .int (zI mo_over2), .int (zI mo_longer), .ref (aMo 34)])), ((aMo 3), .inl (ca 0, 11, .inl (zA mo_rules))), ((aMo 15), .inl (ca 0, 60, .inl (zA mo_runFrom))), ((aMo 16), .inl (ca 0, 60, .inl (zA mo_runTo))), ((aMo 25), .inl (ca 0, 12, .inl (zA mo_maybe)))] (oiX11_finds Ro) (oX11_finds ca aMo mo_taped mo_rules mo_runFrom mo_runTo mo_size mo_runs mo_found mo_counted mo_isParted mo_days mo_over2 mo_longer Ro) := by
  refine ctr_of (lv := [(0, .ref (aMo 0))]) (by decide +kernel) (Nat.le_of_ble_eq_true rfl) rfl (fun Γ hl0 C E hnm => ?_)
  have H7 : ∀  (n7 : Nat) (v1 : Int) (mo_maybe : Nat → Int) (mo_maybes : Int), zlp (fX11_finds_7 mo_rules mo_runFrom mo_runTo mo_runs) n7 (v1, mo_maybe, mo_maybes) = some Ro → Zd D Γ 0 0 [((aMo 0), .inr (11, [.ref (aMo 1), .int (zI mo_taped), .ref (aMo 3), .ref (aMo 4), .ref (aMo 5), .ref (aMo 6), .ref (aMo 7), .ref (aMo 8), .ref (aMo 9), .ref (aMo 10), .ref (aMo 11), .ref (aMo 12), .ref (aMo 13), .ref (aMo 14), .ref (aMo 15), .ref (aMo 16), .int (zI mo_size), .int (zI mo_runs), .ref (aMo 19), .ref (aMo 20), .ref (aMo 21), .int (zI mo_found), .int (zI mo_counted), .int (zI mo_isParted), .ref (aMo 25), .ref (aMo 26), .ref (aMo 27), .ref (aMo 28), .ref (aMo 29), .int (zI mo_maybes), .int (zI mo_days), .int (zI mo_over2), .int (zI mo_longer), .ref (aMo 34)])), ((aMo 3), .inl (ca 0, 11, .inl (zA mo_rules))), ((aMo 15), .inl (ca 0, 60, .inl (zA mo_runFrom))), ((aMo 16), .inl (ca 0, 60, .inl (zA mo_runTo))), ((aMo 25), .inl (ca 0, 12, .inl (zA mo_maybe)))] 7 [(0, .ref (aMo 0)), (1, .int (zI v1))] [] := by
    intro n7
    induction n7 with
    | zero =>
      intro v1 mo_maybe mo_maybes hf
      exact zno hf
    | succ n7 ih7 =>
      have H77 : ∀ (v1 : Int) (mo_maybe : Nat → Int) (mo_maybes : Int), fX11_finds_77 (zlp (fX11_finds_7 mo_rules mo_runFrom mo_runTo mo_runs) n7) v1 mo_maybe mo_maybes = some Ro → Zd D Γ 0 0 [((aMo 0), .inr (11, [.ref (aMo 1), .int (zI mo_taped), .ref (aMo 3), .ref (aMo 4), .ref (aMo 5), .ref (aMo 6), .ref (aMo 7), .ref (aMo 8), .ref (aMo 9), .ref (aMo 10), .ref (aMo 11), .ref (aMo 12), .ref (aMo 13), .ref (aMo 14), .ref (aMo 15), .ref (aMo 16), .int (zI mo_size), .int (zI mo_runs), .ref (aMo 19), .ref (aMo 20), .ref (aMo 21), .int (zI mo_found), .int (zI mo_counted), .int (zI mo_isParted), .ref (aMo 25), .ref (aMo 26), .ref (aMo 27), .ref (aMo 28), .ref (aMo 29), .int (zI mo_maybes), .int (zI mo_days), .int (zI mo_over2), .int (zI mo_longer), .ref (aMo 34)])), ((aMo 3), .inl (ca 0, 11, .inl (zA mo_rules))), ((aMo 15), .inl (ca 0, 60, .inl (zA mo_runFrom))), ((aMo 16), .inl (ca 0, 60, .inl (zA mo_runTo))), ((aMo 25), .inl (ca 0, 12, .inl (zA mo_maybe)))] 77 [(0, .ref (aMo 0)), (1, .int (zI v1))] [] := by
        intro v1 mo_maybe mo_maybes hf
        unfold fX11_finds_77 at hf
        refine g_iinc (pc := 77) C 1 (lv' := [(1, .int (zI (v1 + 1))), (0, .ref (aMo 0))]) dX11_finds_77 rfl (Nat.le_of_ble_eq_true rfl) rfl ?_
        refine g_goto (pc := 80) C (tgt := 7) dX11_finds_80 (by decide) ?_
        refine g_sub [0, 1, 2, 3, 4] [1, 0] (by decide) rfl rfl rfl ?_
        exact ih7 _ _ _ hf
      intro v1 mo_maybe mo_maybes hf
      rw [zlp_s] at hf
      unfold fX11_finds_7 at hf
      dsimp only at hf
      refine g_iload_n (pc := 7) C 1 dX11_finds_7 rfl rfl ?_
      refine g_aload_n (pc := 8) C 0 dX11_finds_8 rfl rfl ?_
      refine g_get (pc := 9) C zf_X11_128 0 rfl rfl dX11_finds_9 ?_
      refine g_icmp_ge (pc := 12) C (tgt := 83) dX11_finds_12 (by decide) hf (fun hf => ?_) (fun hf => ?_)
      · exact g_vret (pc := 83) C hf E rfl (fun _ => 0) [0, 1, 2, 3, 4] (by decide) rfl rfl (Nat.le_refl _) (Nat.le_refl _) dX11_finds_83
      · refine g_aload_n (pc := 15) C 0 dX11_finds_15 rfl rfl ?_
        refine g_get (pc := 16) C zf_X11_151 0 rfl rfl dX11_finds_16 ?_
        refine g_bipush (pc := 19) C dX11_finds_19 (by decide) ?_
        refine g_icmp_ger (pc := 21) C (tgt := 83) dX11_finds_21 (by decide) (by decide) hf (fun hf => ?_) (fun hf => ?_)
        · exact g_vret (pc := 83) C hf E rfl (fun _ => 0) [0, 1, 2, 3, 4] (by decide) rfl rfl (Nat.le_refl _) (Nat.le_refl _) dX11_finds_83
        · refine g_aload_n (pc := 24) C 0 dX11_finds_24 rfl rfl ?_
          refine g_iload_n (pc := 25) C 1 dX11_finds_25 rfl rfl ?_
          obtain ⟨r_26, hc_26, hf⟩ := Option.bind_eq_some_iff.mp hf
          refine g_callV (pc := 26) C hl0 (wr := [((aMo 3), .inl (ca 0, 11, .inl (zA mo_rules))), ((aMo 25), .inl (ca 0, 12, .inl (zA mo_maybe)))]) (k' := 0) (n' := 0) (ws' := fun _ => [((aMo 3), .inl (ca 0, 11, .inl (zA mo_rules))), ((aMo 25), .inl (ca 0, 12, .inl (zA mo_maybe))), ((aMo 0), .inr (11, [.ref (aMo 1), .int (zI mo_taped), .ref (aMo 3), .ref (aMo 4), .ref (aMo 5), .ref (aMo 6), .ref (aMo 7), .ref (aMo 8), .ref (aMo 9), .ref (aMo 10), .ref (aMo 11), .ref (aMo 12), .ref (aMo 13), .ref (aMo 14), .ref (aMo 15), .ref (aMo 16), .int (zI mo_size), .int (zI mo_runs), .ref (aMo 19), .ref (aMo 20), .ref (aMo 21), .int (zI mo_found), .int (zI mo_counted), .int (zI mo_isParted), .ref (aMo 25), .ref (aMo 26), .ref (aMo 27), .ref (aMo 28), .ref (aMo 29), .int (zI mo_maybes), .int (zI mo_days), .int (zI mo_over2), .int (zI mo_longer), .ref (aMo 34)])), ((aMo 15), .inl (ca 0, 60, .inl (zA mo_runFrom))), ((aMo 16), .inl (ca 0, 60, .inl (zA mo_runTo)))]) (st' := [.int (zI r_26)]) (kX11_runLength l D ca aMo mo_taped mo_runFrom mo_runTo mo_size mo_runs mo_found mo_counted mo_isParted mo_maybes mo_days mo_over2 mo_longer v1 r_26 hc_26) wml_RX11_141 wim_X11_runLength wse_X11_runLength win_RX11 wco_X11_runLength (nA := 1) rfl (by decide +kernel)  ⟨(Nat.le_of_ble_eq_true rfl), (Nat.le_of_ble_eq_true rfl)⟩ (Nat.le_refl _) (Nat.le_refl _) rfl (Nat.le_of_ble_eq_true rfl) dX11_finds_26 0 11 rfl rfl rfl [0, 2, 3] [1, 4] rfl rfl rfl (by decide) (by decide) (by decide) rfl rfl (fun _ => rfl) rfl (fun _ => ?_)
          refine g_aload_n (pc := 29) C 0 dX11_finds_29 rfl rfl ?_
          refine g_get (pc := 30) C zf_X11_13 2 rfl rfl dX11_finds_30 ?_
          refine g_bipush (pc := 33) C dX11_finds_33 (by decide) ?_
          refine g_ialdK (pc := 35) C 8 0 rfl rfl (Nat.le_of_ble_eq_true rfl) (Nat.le_of_ble_eq_true rfl) dX11_finds_35 ?_
          refine g_icmp_lt (pc := 36) C (tgt := 77) dX11_finds_36 (by decide) hf (fun hf => ?_) (fun hf => ?_)
          · refine g_sub [2, 0, 3, 4, 1] [0, 1] (by decide) rfl rfl rfl ?_
            exact H77 _ _ _ hf
          · refine g_aload_n (pc := 39) C 0 dX11_finds_39 rfl rfl ?_
            refine g_iload_n (pc := 40) C 1 dX11_finds_40 rfl rfl ?_
            obtain ⟨r_41, hc_41, hf⟩ := Option.bind_eq_some_iff.mp hf
            refine g_callV (pc := 41) C hl0 (wr := [((aMo 3), .inl (ca 0, 11, .inl (zA mo_rules))), ((aMo 25), .inl (ca 0, 12, .inl (zA mo_maybe)))]) (k' := 0) (n' := 0) (ws' := fun _ => [((aMo 3), .inl (ca 0, 11, .inl (zA mo_rules))), ((aMo 25), .inl (ca 0, 12, .inl (zA mo_maybe))), ((aMo 0), .inr (11, [.ref (aMo 1), .int (zI mo_taped), .ref (aMo 3), .ref (aMo 4), .ref (aMo 5), .ref (aMo 6), .ref (aMo 7), .ref (aMo 8), .ref (aMo 9), .ref (aMo 10), .ref (aMo 11), .ref (aMo 12), .ref (aMo 13), .ref (aMo 14), .ref (aMo 15), .ref (aMo 16), .int (zI mo_size), .int (zI mo_runs), .ref (aMo 19), .ref (aMo 20), .ref (aMo 21), .int (zI mo_found), .int (zI mo_counted), .int (zI mo_isParted), .ref (aMo 25), .ref (aMo 26), .ref (aMo 27), .ref (aMo 28), .ref (aMo 29), .int (zI mo_maybes), .int (zI mo_days), .int (zI mo_over2), .int (zI mo_longer), .ref (aMo 34)])), ((aMo 15), .inl (ca 0, 60, .inl (zA mo_runFrom))), ((aMo 16), .inl (ca 0, 60, .inl (zA mo_runTo)))]) (st' := [.int (zI r_41)]) (kX11_runLength l D ca aMo mo_taped mo_runFrom mo_runTo mo_size mo_runs mo_found mo_counted mo_isParted mo_maybes mo_days mo_over2 mo_longer v1 r_41 hc_41) wml_RX11_141 wim_X11_runLength wse_X11_runLength win_RX11 wco_X11_runLength (nA := 1) rfl (by decide +kernel)  ⟨(Nat.le_of_ble_eq_true rfl), (Nat.le_of_ble_eq_true rfl)⟩ (Nat.le_refl _) (Nat.le_refl _) rfl (Nat.le_of_ble_eq_true rfl) dX11_finds_41 2 11 rfl rfl rfl [2, 3, 4] [0, 1] rfl rfl rfl (by decide) (by decide) (by decide) rfl rfl (fun _ => rfl) rfl (fun _ => ?_)
            refine g_aload_n (pc := 44) C 0 dX11_finds_44 rfl rfl ?_
            refine g_get (pc := 45) C zf_X11_13 2 rfl rfl dX11_finds_45 ?_
            refine g_bipush (pc := 48) C dX11_finds_48 (by decide) ?_
            refine g_ialdK (pc := 50) C 7 0 rfl rfl (Nat.le_of_ble_eq_true rfl) (Nat.le_of_ble_eq_true rfl) dX11_finds_50 ?_
            refine g_icmp_lt (pc := 51) C (tgt := 57) dX11_finds_51 (by decide) hf (fun hf => ?_) (fun hf => ?_)
            · refine g_aload_n (pc := 57) C 0 dX11_finds_57 rfl rfl ?_
              refine g_get (pc := 58) C zf_X11_65 2 rfl rfl dX11_finds_58 ?_
              refine g_aload_n (pc := 61) C 0 dX11_finds_61 rfl rfl ?_
              refine g_get (pc := 62) C zf_X11_151 2 rfl rfl dX11_finds_62 ?_
              refine g_iload_n (pc := 65) C 1 dX11_finds_65 rfl rfl ?_
              refine g_iast (pc := 66) C (N := 12) (ws' := [((aMo 3), .inl (ca 0, 11, .inl (zA mo_rules))), ((aMo 25), .inl (ca 0, 12, .inl (zA (zU mo_maybe mo_maybes.toNat v1)))), ((aMo 0), .inr (11, [.ref (aMo 1), .int (zI mo_taped), .ref (aMo 3), .ref (aMo 4), .ref (aMo 5), .ref (aMo 6), .ref (aMo 7), .ref (aMo 8), .ref (aMo 9), .ref (aMo 10), .ref (aMo 11), .ref (aMo 12), .ref (aMo 13), .ref (aMo 14), .ref (aMo 15), .ref (aMo 16), .int (zI mo_size), .int (zI mo_runs), .ref (aMo 19), .ref (aMo 20), .ref (aMo 21), .int (zI mo_found), .int (zI mo_counted), .int (zI mo_isParted), .ref (aMo 25), .ref (aMo 26), .ref (aMo 27), .ref (aMo 28), .ref (aMo 29), .int (zI mo_maybes), .int (zI mo_days), .int (zI mo_over2), .int (zI mo_longer), .ref (aMo 34)])), ((aMo 15), .inl (ca 0, 60, .inl (zA mo_runFrom))), ((aMo 16), .inl (ca 0, 60, .inl (zA mo_runTo)))]) 1 rfl rfl (Nat.le_of_ble_eq_true rfl) rfl dX11_finds_66 hf (fun hf => ?_)
              refine g_aload_n (pc := 67) C 0 dX11_finds_67 rfl rfl ?_
              refine g_aload_n (pc := 68) C 0 dX11_finds_68 rfl rfl ?_
              refine g_get (pc := 69) C zf_X11_151 2 rfl rfl dX11_finds_69 ?_
              refine g_iconst (pc := 72) C dX11_finds_72 ?_
              refine g_iadd (pc := 73) C dX11_finds_73 ?_
              refine g_put (pc := 74) C zf_X11_151 tyX11 tyX11_ok nmX11 (v := .int (zI (mo_maybes + 1))) (ws' := [((aMo 3), .inl (ca 0, 11, .inl (zA mo_rules))), ((aMo 25), .inl (ca 0, 12, .inl (zA (zU mo_maybe mo_maybes.toNat v1)))), ((aMo 0), .inr (11, [.ref (aMo 1), .int (zI mo_taped), .ref (aMo 3), .ref (aMo 4), .ref (aMo 5), .ref (aMo 6), .ref (aMo 7), .ref (aMo 8), .ref (aMo 9), .ref (aMo 10), .ref (aMo 11), .ref (aMo 12), .ref (aMo 13), .ref (aMo 14), .ref (aMo 15), .ref (aMo 16), .int (zI mo_size), .int (zI mo_runs), .ref (aMo 19), .ref (aMo 20), .ref (aMo 21), .int (zI mo_found), .int (zI mo_counted), .int (zI mo_isParted), .ref (aMo 25), .ref (aMo 26), .ref (aMo 27), .ref (aMo 28), .ref (aMo 29), .int (zI (mo_maybes + 1)), .int (zI mo_days), .int (zI mo_over2), .int (zI mo_longer), .ref (aMo 34)])), ((aMo 15), .inl (ca 0, 60, .inl (zA mo_runFrom))), ((aMo 16), .inl (ca 0, 60, .inl (zA mo_runTo)))]) 2 rfl rfl rfl rfl rfl (Nat.le_of_ble_eq_true rfl) rfl rfl dX11_finds_74 ?_
              refine g_sub [2, 0, 3, 4, 1] [0, 1] (by decide) rfl rfl rfl ?_
              exact H77 _ _ _ hf
            · refine g_goto (pc := 54) C (tgt := 77) dX11_finds_54 (by decide) ?_
              refine g_sub [2, 0, 3, 4, 1] [0, 1] (by decide) rfl rfl rfl ?_
              exact H77 _ _ _ hf
  unfold fX11_finds at hf
  refine g_aload_n (pc := 0) C 0 dX11_finds_0 rfl rfl ?_
  refine g_iconst (pc := 1) C dX11_finds_1 ?_
  refine g_put (pc := 2) C zf_X11_151 tyX11 tyX11_ok nmX11 (v := .int (zI 0)) (ws' := [((aMo 0), .inr (11, [.ref (aMo 1), .int (zI mo_taped), .ref (aMo 3), .ref (aMo 4), .ref (aMo 5), .ref (aMo 6), .ref (aMo 7), .ref (aMo 8), .ref (aMo 9), .ref (aMo 10), .ref (aMo 11), .ref (aMo 12), .ref (aMo 13), .ref (aMo 14), .ref (aMo 15), .ref (aMo 16), .int (zI mo_size), .int (zI mo_runs), .ref (aMo 19), .ref (aMo 20), .ref (aMo 21), .int (zI mo_found), .int (zI mo_counted), .int (zI mo_isParted), .ref (aMo 25), .ref (aMo 26), .ref (aMo 27), .ref (aMo 28), .ref (aMo 29), .int (zI 0), .int (zI mo_days), .int (zI mo_over2), .int (zI mo_longer), .ref (aMo 34)])), ((aMo 3), .inl (ca 0, 11, .inl (zA mo_rules))), ((aMo 15), .inl (ca 0, 60, .inl (zA mo_runFrom))), ((aMo 16), .inl (ca 0, 60, .inl (zA mo_runTo))), ((aMo 25), .inl (ca 0, 12, .inl (zA mo_maybe)))]) 0 rfl rfl rfl rfl rfl (Nat.le_of_ble_eq_true rfl) rfl rfl dX11_finds_2 ?_
  refine g_iconst (pc := 5) C dX11_finds_5 ?_
  refine g_istore_n (pc := 6) C (lv' := [(1, .int (zI 0)), (0, .ref (aMo 0))]) dX11_finds_6 rfl (Nat.le_of_ble_eq_true rfl) rfl ?_
  refine g_sub [0, 1, 2, 3, 4] [1, 0] (by decide) rfl rfl rfl ?_
  exact H7 _ _ _ _ hf
def oX11_isTaken (ca : Nat → ClassId) (aMo : Nat → Nat) (mo_taped : Int) (mo_size : Int) (mo_runs : Int) (mo_found : Int) (mo_counted : Int) (mo_isParted : Int) (mo_maybe : Nat → Int) (mo_maybes : Int) (mo_days : Int) (mo_over2 : Int) (mo_longer : Int) (Ro : Int) : (Nat → Nat) → va_W := fun _ => [((aMo 0), .inr (11, [.ref (aMo 1), .int (zI mo_taped), .ref (aMo 3), .ref (aMo 4), .ref (aMo 5), .ref (aMo 6), .ref (aMo 7), .ref (aMo 8), .ref (aMo 9), .ref (aMo 10), .ref (aMo 11), .ref (aMo 12), .ref (aMo 13), .ref (aMo 14), .ref (aMo 15), .ref (aMo 16), .int (zI mo_size), .int (zI mo_runs), .ref (aMo 19), .ref (aMo 20), .ref (aMo 21), .int (zI mo_found), .int (zI mo_counted), .int (zI mo_isParted), .ref (aMo 25), .ref (aMo 26), .ref (aMo 27), .ref (aMo 28), .ref (aMo 29), .int (zI mo_maybes), .int (zI mo_days), .int (zI mo_over2), .int (zI mo_longer), .ref (aMo 34)])), ((aMo 25), .inl (ca 0, 12, .inl (zA mo_maybe)))]
def oiX11_isTaken (Ro : Int) : Option Value := (some (.int (zI Ro)))
set_option maxRecDepth 100000 in
theorem kX11_isTaken (l : Launch) (D : va_G) (ca : Nat → ClassId) (aMo : Nat → Nat) (mo_taped : Int) (mo_size : Int) (mo_runs : Int) (mo_found : Int) (mo_counted : Int) (mo_isParted : Int) (mo_maybe : Nat → Int) (mo_maybes : Int) (mo_days : Int) (mo_over2 : Int) (mo_longer : Int) (v1 : Int) (v2 : Int) (Ro : Int)
    (hf : fX11_isTaken v1 v2 mo_maybe mo_maybes = some Ro) : Zc l D ca yX11_isTaken cX11_isTaken 4 (some .boolean) { frames := 0, cells := 0, slots := 0, locals := 0 } [.ref (aMo 0), .int (zI v1), .int (zI v2)] [((aMo 0), .inr (11, [.ref (aMo 1), .int (zI mo_taped), .ref (aMo 3), .ref (aMo 4), .ref (aMo 5), .ref (aMo 6), .ref (aMo 7), .ref (aMo 8), .ref (aMo 9), .ref (aMo 10), .ref (aMo 11), .ref (aMo 12), .ref (aMo 13), .ref (aMo 14), .ref (aMo 15), .ref (aMo 16), .int (zI mo_size), .int (zI mo_runs), .ref (aMo 19), .ref (aMo 20), .ref (aMo 21), .int (zI mo_found), .int (zI mo_counted), .int (zI mo_isParted), .ref (aMo 25), .ref (aMo 26), .ref (aMo 27), .ref (aMo 28), .ref (aMo 29), .int (zI mo_maybes), .int (zI mo_days), .int (zI mo_over2), .int (zI mo_longer), .ref (aMo 34)])), ((aMo 25), .inl (ca 0, 12, .inl (zA mo_maybe)))] (oiX11_isTaken Ro) (oX11_isTaken ca aMo mo_taped mo_size mo_runs mo_found mo_counted mo_isParted mo_maybe mo_maybes mo_days mo_over2 mo_longer Ro) := by
  refine ctr_of (lv := [(0, .ref (aMo 0)), (1, .int (zI v1)), (2, .int (zI v2))]) (by decide +kernel) (Nat.le_of_ble_eq_true rfl) rfl (fun Γ hl0 C E hnm => ?_)
  have H2 : ∀  (n2 : Nat) (v3 : Int), zlp (fX11_isTaken_2 v1 v2 mo_maybe mo_maybes) n2 v3 = some Ro → Zd D Γ 0 0 [((aMo 0), .inr (11, [.ref (aMo 1), .int (zI mo_taped), .ref (aMo 3), .ref (aMo 4), .ref (aMo 5), .ref (aMo 6), .ref (aMo 7), .ref (aMo 8), .ref (aMo 9), .ref (aMo 10), .ref (aMo 11), .ref (aMo 12), .ref (aMo 13), .ref (aMo 14), .ref (aMo 15), .ref (aMo 16), .int (zI mo_size), .int (zI mo_runs), .ref (aMo 19), .ref (aMo 20), .ref (aMo 21), .int (zI mo_found), .int (zI mo_counted), .int (zI mo_isParted), .ref (aMo 25), .ref (aMo 26), .ref (aMo 27), .ref (aMo 28), .ref (aMo 29), .int (zI mo_maybes), .int (zI mo_days), .int (zI mo_over2), .int (zI mo_longer), .ref (aMo 34)])), ((aMo 25), .inl (ca 0, 12, .inl (zA mo_maybe)))] 2 [(0, .ref (aMo 0)), (1, .int (zI v1)), (2, .int (zI v2)), (3, .int (zI v3))] [] := by
    intro n2
    induction n2 with
    | zero =>
      intro v3 hf
      exact zno hf
    | succ n2 ih2 =>
      intro v3 hf
      rw [zlp_s] at hf
      unfold fX11_isTaken_2 at hf
      refine g_iload_n (pc := 2) C 3 dX11_isTaken_2 rfl rfl ?_
      refine g_aload_n (pc := 3) C 0 dX11_isTaken_3 rfl rfl ?_
      refine g_get (pc := 4) C zf_X11_151 0 rfl rfl dX11_isTaken_4 ?_
      refine g_icmp_ge (pc := 7) C (tgt := 41) dX11_isTaken_7 (by decide) hf (fun hf => ?_) (fun hf => ?_)
      · refine g_iconst (pc := 41) C dX11_isTaken_41 ?_
        exact g_zret (pc := 42) C hf E (by decide) rfl (fun _ => 0) [0, 1] (by decide) rfl rfl (Nat.le_refl _) (Nat.le_refl _) dX11_isTaken_42
      · refine g_aload_n (pc := 10) C 0 dX11_isTaken_10 rfl rfl ?_
        refine g_get (pc := 11) C zf_X11_65 0 rfl rfl dX11_isTaken_11 ?_
        refine g_iload_n (pc := 14) C 3 dX11_isTaken_14 rfl rfl ?_
        refine g_iald (pc := 15) C (N := 12) 1 rfl rfl (Nat.le_of_ble_eq_true rfl) dX11_isTaken_15 hf (fun hf => ?_)
        refine g_iload_n (pc := 16) C 1 dX11_isTaken_16 rfl rfl ?_
        refine g_icmp_ne (pc := 17) C (tgt := 35) dX11_isTaken_17 (by decide) hf (fun hf => ?_) (fun hf => ?_)
        · refine g_iinc (pc := 35) C 3 (lv' := [(3, .int (zI (v3 + 1))), (0, .ref (aMo 0)), (1, .int (zI v1)), (2, .int (zI v2))]) dX11_isTaken_35 rfl (Nat.le_of_ble_eq_true rfl) rfl ?_
          refine g_goto (pc := 38) C (tgt := 2) dX11_isTaken_38 (by decide) ?_
          refine g_sub [0, 1] [1, 2, 3, 0] (by decide) rfl rfl rfl ?_
          exact ih2 _ hf
        · refine g_iload_n (pc := 20) C 2 dX11_isTaken_20 rfl rfl ?_
          refine g_iload_n (pc := 21) C 3 dX11_isTaken_21 rfl rfl ?_
          refine g_ishr (pc := 22) C dX11_isTaken_22 ?_
          refine g_iconst (pc := 23) C dX11_isTaken_23 ?_
          refine g_iand (pc := 24) C dX11_isTaken_24 ?_
          refine g_iconst (pc := 25) C dX11_isTaken_25 ?_
          refine g_icmp_ner (pc := 26) C (tgt := 33) dX11_isTaken_26 (by decide) (by decide) hf (fun hf => ?_) (fun hf => ?_)
          · refine g_iconst (pc := 33) C dX11_isTaken_33 ?_
            exact g_zret (pc := 34) C hf E (by decide) rfl (fun _ => 0) [0, 1] (by decide) rfl rfl (Nat.le_refl _) (Nat.le_refl _) dX11_isTaken_34
          · refine g_iconst (pc := 29) C dX11_isTaken_29 ?_
            refine g_goto (pc := 30) C (tgt := 34) dX11_isTaken_30 (by decide) ?_
            exact g_zret (pc := 34) C hf E (by decide) rfl (fun _ => 0) [0, 1] (by decide) rfl rfl (Nat.le_refl _) (Nat.le_refl _) dX11_isTaken_34
  unfold fX11_isTaken at hf
  refine g_iconst (pc := 0) C dX11_isTaken_0 ?_
  refine g_istore_n (pc := 1) C (lv' := [(3, .int (zI 0)), (0, .ref (aMo 0)), (1, .int (zI v1)), (2, .int (zI v2))]) dX11_isTaken_1 rfl (Nat.le_of_ble_eq_true rfl) rfl ?_
  refine g_sub [0, 1] [1, 2, 3, 0] (by decide) rfl rfl rfl ?_
  exact H2 _ _ hf
def oX11_parts (ca : Nat → ClassId) (aMo : Nat → Nat) (mo_taped : Int) (mo_rules : Nat → Int) (mo_runFrom : Nat → Int) (mo_runTo : Nat → Int) (mo_size : Int) (mo_runs : Int) (mo_found : Int) (mo_counted : Int) (mo_isParted : Int) (mo_maybe : Nat → Int) (mo_maybes : Int) (mo_over2 : Int) (mo_longer : Int) (Ro : (Nat → Int) × (Nat → Int) × (Nat → Int) × Int) : (Nat → Nat) → va_W := fun _ => [((aMo 0), .inr (11, [.ref (aMo 1), .int (zI mo_taped), .ref (aMo 3), .ref (aMo 4), .ref (aMo 5), .ref (aMo 6), .ref (aMo 7), .ref (aMo 8), .ref (aMo 9), .ref (aMo 10), .ref (aMo 11), .ref (aMo 12), .ref (aMo 13), .ref (aMo 14), .ref (aMo 15), .ref (aMo 16), .int (zI mo_size), .int (zI mo_runs), .ref (aMo 19), .ref (aMo 20), .ref (aMo 21), .int (zI mo_found), .int (zI mo_counted), .int (zI mo_isParted), .ref (aMo 25), .ref (aMo 26), .ref (aMo 27), .ref (aMo 28), .ref (aMo 29), .int (zI mo_maybes), .int (zI (Ro.2.2.2)), .int (zI mo_over2), .int (zI mo_longer), .ref (aMo 34)])), ((aMo 3), .inl (ca 0, 11, .inl (zA mo_rules))), ((aMo 15), .inl (ca 0, 60, .inl (zA mo_runFrom))), ((aMo 16), .inl (ca 0, 60, .inl (zA mo_runTo))), ((aMo 25), .inl (ca 0, 12, .inl (zA mo_maybe))), ((aMo 26), .inl (ca 0, 62, .inl (zA (Ro.1)))), ((aMo 27), .inl (ca 0, 62, .inl (zA (Ro.2.1)))), ((aMo 28), .inl (ca 0, 62, .inl (zA (Ro.2.2.1))))]
def oiX11_parts (Ro : (Nat → Int) × (Nat → Int) × (Nat → Int) × Int) : Option Value := none
set_option maxRecDepth 100000 in
theorem kX11_parts (l : Launch) (D : va_G) (ca : Nat → ClassId) (aMo : Nat → Nat) (mo_taped : Int) (mo_rules : Nat → Int) (mo_runFrom : Nat → Int) (mo_runTo : Nat → Int) (mo_size : Int) (mo_runs : Int) (mo_found : Int) (mo_counted : Int) (mo_isParted : Int) (mo_maybe : Nat → Int) (mo_dayFrom : Nat → Int) (mo_dayTo : Nat → Int) (mo_dayRun : Nat → Int) (mo_maybes : Int) (mo_days : Int) (mo_over2 : Int) (mo_longer : Int) (v1 : Int) (Ro : (Nat → Int) × (Nat → Int) × (Nat → Int) × Int)
    (hf : fX11_parts v1 mo_rules mo_runFrom mo_runTo mo_size mo_runs mo_maybe mo_dayFrom mo_dayTo mo_dayRun mo_maybes mo_days = some Ro) : Zc l D ca yX11_parts cX11_parts 4 none { frames := 1, cells := 0, slots := 0, locals := 23 } [.ref (aMo 0), .int (zI v1)] [((aMo 0), .inr (11, [.ref (aMo 1), .int (zI mo_taped), .ref (aMo 3), .ref (aMo 4), .ref (aMo 5), .ref (aMo 6), .ref (aMo 7), .ref (aMo 8), .ref (aMo 9), .ref (aMo 10), .ref (aMo 11), .ref (aMo 12), .ref (aMo 13), .ref (aMo 14), .ref (aMo 15), .ref (aMo 16), .int (zI mo_size), .int (zI mo_runs), .ref (aMo 19), .ref (aMo 20), .ref (aMo 21), .int (zI mo_found), .int (zI mo_counted), .int (zI mo_isParted), .ref (aMo 25), .ref (aMo 26), .ref (aMo 27), .ref (aMo 28), .ref (aMo 29), .int (zI mo_maybes), .int (zI mo_days), .int (zI mo_over2), .int (zI mo_longer), .ref (aMo 34)])), ((aMo 3), .inl (ca 0, 11, .inl (zA mo_rules))), ((aMo 15), .inl (ca 0, 60, .inl (zA mo_runFrom))), ((aMo 16), .inl (ca 0, 60, .inl (zA mo_runTo))), ((aMo 25), .inl (ca 0, 12, .inl (zA mo_maybe))), ((aMo 26), .inl (ca 0, 62, .inl (zA mo_dayFrom))), ((aMo 27), .inl (ca 0, 62, .inl (zA mo_dayTo))), ((aMo 28), .inl (ca 0, 62, .inl (zA mo_dayRun)))] (oiX11_parts Ro) (oX11_parts ca aMo mo_taped mo_rules mo_runFrom mo_runTo mo_size mo_runs mo_found mo_counted mo_isParted mo_maybe mo_maybes mo_over2 mo_longer Ro) := by
  refine ctr_of (lv := [(0, .ref (aMo 0)), (1, .int (zI v1))]) (by decide +kernel) (Nat.le_of_ble_eq_true rfl) rfl (fun Γ hl0 C E hnm => ?_)
  have H9 : ∀  (n9 : Nat) (v2 : Int) (v3 : Int) (mo_dayFrom : Nat → Int) (mo_dayTo : Nat → Int) (mo_dayRun : Nat → Int) (mo_days : Int), zlp (fX11_parts_9 v1 mo_rules mo_runFrom mo_runTo mo_size mo_runs mo_maybe mo_maybes) n9 (v2, v3, mo_dayFrom, mo_dayTo, mo_dayRun, mo_days) = some Ro → Zd D Γ 0 0 [((aMo 0), .inr (11, [.ref (aMo 1), .int (zI mo_taped), .ref (aMo 3), .ref (aMo 4), .ref (aMo 5), .ref (aMo 6), .ref (aMo 7), .ref (aMo 8), .ref (aMo 9), .ref (aMo 10), .ref (aMo 11), .ref (aMo 12), .ref (aMo 13), .ref (aMo 14), .ref (aMo 15), .ref (aMo 16), .int (zI mo_size), .int (zI mo_runs), .ref (aMo 19), .ref (aMo 20), .ref (aMo 21), .int (zI mo_found), .int (zI mo_counted), .int (zI mo_isParted), .ref (aMo 25), .ref (aMo 26), .ref (aMo 27), .ref (aMo 28), .ref (aMo 29), .int (zI mo_maybes), .int (zI mo_days), .int (zI mo_over2), .int (zI mo_longer), .ref (aMo 34)])), ((aMo 3), .inl (ca 0, 11, .inl (zA mo_rules))), ((aMo 15), .inl (ca 0, 60, .inl (zA mo_runFrom))), ((aMo 16), .inl (ca 0, 60, .inl (zA mo_runTo))), ((aMo 25), .inl (ca 0, 12, .inl (zA mo_maybe))), ((aMo 26), .inl (ca 0, 62, .inl (zA mo_dayFrom))), ((aMo 27), .inl (ca 0, 62, .inl (zA mo_dayTo))), ((aMo 28), .inl (ca 0, 62, .inl (zA mo_dayRun)))] 9 [(0, .ref (aMo 0)), (1, .int (zI v1)), (2, .int (zI v2)), (3, .int (zI v3))] [] := by
    intro n9
    induction n9 with
    | zero =>
      intro v2 v3 mo_dayFrom mo_dayTo mo_dayRun mo_days hf
      exact zno hf
    | succ n9 ih9 =>
      have H96 : ∀ (v2 : Int) (v3 : Int) (mo_dayFrom : Nat → Int) (mo_dayTo : Nat → Int) (mo_dayRun : Nat → Int) (mo_days : Int), fX11_parts_96 (zlp (fX11_parts_9 v1 mo_rules mo_runFrom mo_runTo mo_size mo_runs mo_maybe mo_maybes) n9) v2 v3 mo_dayFrom mo_dayTo mo_dayRun mo_days = some Ro → Zd D Γ 0 0 [((aMo 0), .inr (11, [.ref (aMo 1), .int (zI mo_taped), .ref (aMo 3), .ref (aMo 4), .ref (aMo 5), .ref (aMo 6), .ref (aMo 7), .ref (aMo 8), .ref (aMo 9), .ref (aMo 10), .ref (aMo 11), .ref (aMo 12), .ref (aMo 13), .ref (aMo 14), .ref (aMo 15), .ref (aMo 16), .int (zI mo_size), .int (zI mo_runs), .ref (aMo 19), .ref (aMo 20), .ref (aMo 21), .int (zI mo_found), .int (zI mo_counted), .int (zI mo_isParted), .ref (aMo 25), .ref (aMo 26), .ref (aMo 27), .ref (aMo 28), .ref (aMo 29), .int (zI mo_maybes), .int (zI mo_days), .int (zI mo_over2), .int (zI mo_longer), .ref (aMo 34)])), ((aMo 3), .inl (ca 0, 11, .inl (zA mo_rules))), ((aMo 15), .inl (ca 0, 60, .inl (zA mo_runFrom))), ((aMo 16), .inl (ca 0, 60, .inl (zA mo_runTo))), ((aMo 25), .inl (ca 0, 12, .inl (zA mo_maybe))), ((aMo 26), .inl (ca 0, 62, .inl (zA mo_dayFrom))), ((aMo 27), .inl (ca 0, 62, .inl (zA mo_dayTo))), ((aMo 28), .inl (ca 0, 62, .inl (zA mo_dayRun)))] 96 [(0, .ref (aMo 0)), (1, .int (zI v1)), (2, .int (zI v2)), (3, .int (zI v3))] [] := by
        intro v2 v3 mo_dayFrom mo_dayTo mo_dayRun mo_days hf
        unfold fX11_parts_96 at hf
        refine g_iinc (pc := 96) C 3 (lv' := [(3, .int (zI (v3 + 1))), (0, .ref (aMo 0)), (1, .int (zI v1)), (2, .int (zI v2))]) dX11_parts_96 rfl (Nat.le_of_ble_eq_true rfl) rfl ?_
        refine g_goto (pc := 99) C (tgt := 9) dX11_parts_99 (by decide) ?_
        refine g_sub [0, 1, 2, 3, 4, 5, 6, 7] [1, 2, 3, 0] (by decide) rfl rfl rfl ?_
        exact ih9 _ _ _ _ _ _ hf
      have H44 : ∀ (v2 : Int) (v3 : Int) (mo_dayFrom : Nat → Int) (mo_dayTo : Nat → Int) (mo_dayRun : Nat → Int) (mo_days : Int), fX11_parts_44 (zlp (fX11_parts_9 v1 mo_rules mo_runFrom mo_runTo mo_size mo_runs mo_maybe mo_maybes) n9) v2 v3 mo_runTo mo_dayFrom mo_dayTo mo_dayRun mo_days = some Ro → Zd D Γ 0 0 [((aMo 0), .inr (11, [.ref (aMo 1), .int (zI mo_taped), .ref (aMo 3), .ref (aMo 4), .ref (aMo 5), .ref (aMo 6), .ref (aMo 7), .ref (aMo 8), .ref (aMo 9), .ref (aMo 10), .ref (aMo 11), .ref (aMo 12), .ref (aMo 13), .ref (aMo 14), .ref (aMo 15), .ref (aMo 16), .int (zI mo_size), .int (zI mo_runs), .ref (aMo 19), .ref (aMo 20), .ref (aMo 21), .int (zI mo_found), .int (zI mo_counted), .int (zI mo_isParted), .ref (aMo 25), .ref (aMo 26), .ref (aMo 27), .ref (aMo 28), .ref (aMo 29), .int (zI mo_maybes), .int (zI mo_days), .int (zI mo_over2), .int (zI mo_longer), .ref (aMo 34)])), ((aMo 3), .inl (ca 0, 11, .inl (zA mo_rules))), ((aMo 15), .inl (ca 0, 60, .inl (zA mo_runFrom))), ((aMo 16), .inl (ca 0, 60, .inl (zA mo_runTo))), ((aMo 25), .inl (ca 0, 12, .inl (zA mo_maybe))), ((aMo 26), .inl (ca 0, 62, .inl (zA mo_dayFrom))), ((aMo 27), .inl (ca 0, 62, .inl (zA mo_dayTo))), ((aMo 28), .inl (ca 0, 62, .inl (zA mo_dayRun)))] 44 [(0, .ref (aMo 0)), (1, .int (zI v1)), (2, .int (zI v2)), (3, .int (zI v3))] [] := by
        intro v2 v3 mo_dayFrom mo_dayTo mo_dayRun mo_days hf
        unfold fX11_parts_44 at hf
        refine g_aload_n (pc := 44) C 0 dX11_parts_44 rfl rfl ?_
        refine g_get (pc := 45) C zf_X11_68 0 rfl rfl dX11_parts_45 ?_
        refine g_aload_n (pc := 48) C 0 dX11_parts_48 rfl rfl ?_
        refine g_get (pc := 49) C zf_X11_154 0 rfl rfl dX11_parts_49 ?_
        refine g_iload_n (pc := 52) C 2 dX11_parts_52 rfl rfl ?_
        refine g_iast (pc := 53) C (N := 62) (ws' := [((aMo 0), .inr (11, [.ref (aMo 1), .int (zI mo_taped), .ref (aMo 3), .ref (aMo 4), .ref (aMo 5), .ref (aMo 6), .ref (aMo 7), .ref (aMo 8), .ref (aMo 9), .ref (aMo 10), .ref (aMo 11), .ref (aMo 12), .ref (aMo 13), .ref (aMo 14), .ref (aMo 15), .ref (aMo 16), .int (zI mo_size), .int (zI mo_runs), .ref (aMo 19), .ref (aMo 20), .ref (aMo 21), .int (zI mo_found), .int (zI mo_counted), .int (zI mo_isParted), .ref (aMo 25), .ref (aMo 26), .ref (aMo 27), .ref (aMo 28), .ref (aMo 29), .int (zI mo_maybes), .int (zI mo_days), .int (zI mo_over2), .int (zI mo_longer), .ref (aMo 34)])), ((aMo 3), .inl (ca 0, 11, .inl (zA mo_rules))), ((aMo 15), .inl (ca 0, 60, .inl (zA mo_runFrom))), ((aMo 16), .inl (ca 0, 60, .inl (zA mo_runTo))), ((aMo 25), .inl (ca 0, 12, .inl (zA mo_maybe))), ((aMo 26), .inl (ca 0, 62, .inl (zA (zU mo_dayFrom mo_days.toNat v2)))), ((aMo 27), .inl (ca 0, 62, .inl (zA mo_dayTo))), ((aMo 28), .inl (ca 0, 62, .inl (zA mo_dayRun)))]) 5 rfl rfl (Nat.le_of_ble_eq_true rfl) rfl dX11_parts_53 hf (fun hf => ?_)
        refine g_aload_n (pc := 54) C 0 dX11_parts_54 rfl rfl ?_
        refine g_get (pc := 55) C zf_X11_71 0 rfl rfl dX11_parts_55 ?_
        refine g_aload_n (pc := 58) C 0 dX11_parts_58 rfl rfl ?_
        refine g_get (pc := 59) C zf_X11_154 0 rfl rfl dX11_parts_59 ?_
        refine g_aload_n (pc := 62) C 0 dX11_parts_62 rfl rfl ?_
        refine g_get (pc := 63) C zf_X11_53 0 rfl rfl dX11_parts_63 ?_
        refine g_iload_n (pc := 66) C 3 dX11_parts_66 rfl rfl ?_
        refine g_iald (pc := 67) C (N := 60) 3 rfl rfl (Nat.le_of_ble_eq_true rfl) dX11_parts_67 hf (fun hf => ?_)
        refine g_iast (pc := 68) C (N := 62) (ws' := [((aMo 0), .inr (11, [.ref (aMo 1), .int (zI mo_taped), .ref (aMo 3), .ref (aMo 4), .ref (aMo 5), .ref (aMo 6), .ref (aMo 7), .ref (aMo 8), .ref (aMo 9), .ref (aMo 10), .ref (aMo 11), .ref (aMo 12), .ref (aMo 13), .ref (aMo 14), .ref (aMo 15), .ref (aMo 16), .int (zI mo_size), .int (zI mo_runs), .ref (aMo 19), .ref (aMo 20), .ref (aMo 21), .int (zI mo_found), .int (zI mo_counted), .int (zI mo_isParted), .ref (aMo 25), .ref (aMo 26), .ref (aMo 27), .ref (aMo 28), .ref (aMo 29), .int (zI mo_maybes), .int (zI mo_days), .int (zI mo_over2), .int (zI mo_longer), .ref (aMo 34)])), ((aMo 3), .inl (ca 0, 11, .inl (zA mo_rules))), ((aMo 15), .inl (ca 0, 60, .inl (zA mo_runFrom))), ((aMo 16), .inl (ca 0, 60, .inl (zA mo_runTo))), ((aMo 25), .inl (ca 0, 12, .inl (zA mo_maybe))), ((aMo 26), .inl (ca 0, 62, .inl (zA (zU mo_dayFrom mo_days.toNat v2)))), ((aMo 27), .inl (ca 0, 62, .inl (zA (zU mo_dayTo mo_days.toNat (mo_runTo v3.toNat))))), ((aMo 28), .inl (ca 0, 62, .inl (zA mo_dayRun)))]) 6 rfl rfl (Nat.le_of_ble_eq_true rfl) rfl dX11_parts_68 hf (fun hf => ?_)
        refine g_aload_n (pc := 69) C 0 dX11_parts_69 rfl rfl ?_
        refine g_get (pc := 70) C zf_X11_74 0 rfl rfl dX11_parts_70 ?_
        refine g_aload_n (pc := 73) C 0 dX11_parts_73 rfl rfl ?_
        refine g_get (pc := 74) C zf_X11_154 0 rfl rfl dX11_parts_74 ?_
        refine g_iload_n (pc := 77) C 3 dX11_parts_77 rfl rfl ?_
        refine g_iast (pc := 78) C (N := 62) (ws' := [((aMo 0), .inr (11, [.ref (aMo 1), .int (zI mo_taped), .ref (aMo 3), .ref (aMo 4), .ref (aMo 5), .ref (aMo 6), .ref (aMo 7), .ref (aMo 8), .ref (aMo 9), .ref (aMo 10), .ref (aMo 11), .ref (aMo 12), .ref (aMo 13), .ref (aMo 14), .ref (aMo 15), .ref (aMo 16), .int (zI mo_size), .int (zI mo_runs), .ref (aMo 19), .ref (aMo 20), .ref (aMo 21), .int (zI mo_found), .int (zI mo_counted), .int (zI mo_isParted), .ref (aMo 25), .ref (aMo 26), .ref (aMo 27), .ref (aMo 28), .ref (aMo 29), .int (zI mo_maybes), .int (zI mo_days), .int (zI mo_over2), .int (zI mo_longer), .ref (aMo 34)])), ((aMo 3), .inl (ca 0, 11, .inl (zA mo_rules))), ((aMo 15), .inl (ca 0, 60, .inl (zA mo_runFrom))), ((aMo 16), .inl (ca 0, 60, .inl (zA mo_runTo))), ((aMo 25), .inl (ca 0, 12, .inl (zA mo_maybe))), ((aMo 26), .inl (ca 0, 62, .inl (zA (zU mo_dayFrom mo_days.toNat v2)))), ((aMo 27), .inl (ca 0, 62, .inl (zA (zU mo_dayTo mo_days.toNat (mo_runTo v3.toNat))))), ((aMo 28), .inl (ca 0, 62, .inl (zA (zU mo_dayRun mo_days.toNat v3))))]) 7 rfl rfl (Nat.le_of_ble_eq_true rfl) rfl dX11_parts_78 hf (fun hf => ?_)
        refine g_aload_n (pc := 79) C 0 dX11_parts_79 rfl rfl ?_
        refine g_aload_n (pc := 80) C 0 dX11_parts_80 rfl rfl ?_
        refine g_get (pc := 81) C zf_X11_154 0 rfl rfl dX11_parts_81 ?_
        refine g_iconst (pc := 84) C dX11_parts_84 ?_
        refine g_iadd (pc := 85) C dX11_parts_85 ?_
        refine g_put (pc := 86) C zf_X11_154 tyX11 tyX11_ok nmX11 (v := .int (zI (mo_days + 1))) (ws' := [((aMo 0), .inr (11, [.ref (aMo 1), .int (zI mo_taped), .ref (aMo 3), .ref (aMo 4), .ref (aMo 5), .ref (aMo 6), .ref (aMo 7), .ref (aMo 8), .ref (aMo 9), .ref (aMo 10), .ref (aMo 11), .ref (aMo 12), .ref (aMo 13), .ref (aMo 14), .ref (aMo 15), .ref (aMo 16), .int (zI mo_size), .int (zI mo_runs), .ref (aMo 19), .ref (aMo 20), .ref (aMo 21), .int (zI mo_found), .int (zI mo_counted), .int (zI mo_isParted), .ref (aMo 25), .ref (aMo 26), .ref (aMo 27), .ref (aMo 28), .ref (aMo 29), .int (zI mo_maybes), .int (zI (mo_days + 1)), .int (zI mo_over2), .int (zI mo_longer), .ref (aMo 34)])), ((aMo 3), .inl (ca 0, 11, .inl (zA mo_rules))), ((aMo 15), .inl (ca 0, 60, .inl (zA mo_runFrom))), ((aMo 16), .inl (ca 0, 60, .inl (zA mo_runTo))), ((aMo 25), .inl (ca 0, 12, .inl (zA mo_maybe))), ((aMo 26), .inl (ca 0, 62, .inl (zA (zU mo_dayFrom mo_days.toNat v2)))), ((aMo 27), .inl (ca 0, 62, .inl (zA (zU mo_dayTo mo_days.toNat (mo_runTo v3.toNat))))), ((aMo 28), .inl (ca 0, 62, .inl (zA (zU mo_dayRun mo_days.toNat v3))))]) 0 rfl rfl rfl rfl rfl (Nat.le_of_ble_eq_true rfl) rfl rfl dX11_parts_86 ?_
        refine g_aload_n (pc := 89) C 0 dX11_parts_89 rfl rfl ?_
        refine g_get (pc := 90) C zf_X11_53 0 rfl rfl dX11_parts_90 ?_
        refine g_iload_n (pc := 93) C 3 dX11_parts_93 rfl rfl ?_
        refine g_iald (pc := 94) C (N := 60) 3 rfl rfl (Nat.le_of_ble_eq_true rfl) dX11_parts_94 hf (fun hf => ?_)
        refine g_istore_n (pc := 95) C (lv' := [(2, .int (zI (mo_runTo v3.toNat))), (0, .ref (aMo 0)), (1, .int (zI v1)), (3, .int (zI v3))]) dX11_parts_95 rfl (Nat.le_of_ble_eq_true rfl) rfl ?_
        refine g_sub [0, 1, 2, 3, 4, 5, 6, 7] [1, 2, 0, 3] (by decide) rfl rfl rfl ?_
        exact H96 _ _ _ _ _ _ hf
      intro v2 v3 mo_dayFrom mo_dayTo mo_dayRun mo_days hf
      rw [zlp_s] at hf
      unfold fX11_parts_9 at hf
      dsimp only at hf
      refine g_iload_n (pc := 9) C 3 dX11_parts_9 rfl rfl ?_
      refine g_aload_n (pc := 10) C 0 dX11_parts_10 rfl rfl ?_
      refine g_get (pc := 11) C zf_X11_128 0 rfl rfl dX11_parts_11 ?_
      refine g_icmp_ge (pc := 14) C (tgt := 102) dX11_parts_14 (by decide) hf (fun hf => ?_) (fun hf => ?_)
      · refine g_iload_n (pc := 102) C 2 dX11_parts_102 rfl rfl ?_
        refine g_aload_n (pc := 103) C 0 dX11_parts_103 rfl rfl ?_
        refine g_get (pc := 104) C zf_X11_121 0 rfl rfl dX11_parts_104 ?_
        refine g_icmp_ne (pc := 107) C (tgt := 111) dX11_parts_107 (by decide) hf (fun hf => ?_) (fun hf => ?_)
        · refine g_aload_n (pc := 111) C 0 dX11_parts_111 rfl rfl ?_
          refine g_get (pc := 112) C zf_X11_68 0 rfl rfl dX11_parts_112 ?_
          refine g_aload_n (pc := 115) C 0 dX11_parts_115 rfl rfl ?_
          refine g_get (pc := 116) C zf_X11_154 0 rfl rfl dX11_parts_116 ?_
          refine g_iload_n (pc := 119) C 2 dX11_parts_119 rfl rfl ?_
          refine g_iast (pc := 120) C (N := 62) (ws' := [((aMo 0), .inr (11, [.ref (aMo 1), .int (zI mo_taped), .ref (aMo 3), .ref (aMo 4), .ref (aMo 5), .ref (aMo 6), .ref (aMo 7), .ref (aMo 8), .ref (aMo 9), .ref (aMo 10), .ref (aMo 11), .ref (aMo 12), .ref (aMo 13), .ref (aMo 14), .ref (aMo 15), .ref (aMo 16), .int (zI mo_size), .int (zI mo_runs), .ref (aMo 19), .ref (aMo 20), .ref (aMo 21), .int (zI mo_found), .int (zI mo_counted), .int (zI mo_isParted), .ref (aMo 25), .ref (aMo 26), .ref (aMo 27), .ref (aMo 28), .ref (aMo 29), .int (zI mo_maybes), .int (zI mo_days), .int (zI mo_over2), .int (zI mo_longer), .ref (aMo 34)])), ((aMo 3), .inl (ca 0, 11, .inl (zA mo_rules))), ((aMo 15), .inl (ca 0, 60, .inl (zA mo_runFrom))), ((aMo 16), .inl (ca 0, 60, .inl (zA mo_runTo))), ((aMo 25), .inl (ca 0, 12, .inl (zA mo_maybe))), ((aMo 26), .inl (ca 0, 62, .inl (zA (zU mo_dayFrom mo_days.toNat v2)))), ((aMo 27), .inl (ca 0, 62, .inl (zA mo_dayTo))), ((aMo 28), .inl (ca 0, 62, .inl (zA mo_dayRun)))]) 5 rfl rfl (Nat.le_of_ble_eq_true rfl) rfl dX11_parts_120 hf (fun hf => ?_)
          refine g_aload_n (pc := 121) C 0 dX11_parts_121 rfl rfl ?_
          refine g_get (pc := 122) C zf_X11_71 0 rfl rfl dX11_parts_122 ?_
          refine g_aload_n (pc := 125) C 0 dX11_parts_125 rfl rfl ?_
          refine g_get (pc := 126) C zf_X11_154 0 rfl rfl dX11_parts_126 ?_
          refine g_aload_n (pc := 129) C 0 dX11_parts_129 rfl rfl ?_
          refine g_get (pc := 130) C zf_X11_121 0 rfl rfl dX11_parts_130 ?_
          refine g_iast (pc := 133) C (N := 62) (ws' := [((aMo 0), .inr (11, [.ref (aMo 1), .int (zI mo_taped), .ref (aMo 3), .ref (aMo 4), .ref (aMo 5), .ref (aMo 6), .ref (aMo 7), .ref (aMo 8), .ref (aMo 9), .ref (aMo 10), .ref (aMo 11), .ref (aMo 12), .ref (aMo 13), .ref (aMo 14), .ref (aMo 15), .ref (aMo 16), .int (zI mo_size), .int (zI mo_runs), .ref (aMo 19), .ref (aMo 20), .ref (aMo 21), .int (zI mo_found), .int (zI mo_counted), .int (zI mo_isParted), .ref (aMo 25), .ref (aMo 26), .ref (aMo 27), .ref (aMo 28), .ref (aMo 29), .int (zI mo_maybes), .int (zI mo_days), .int (zI mo_over2), .int (zI mo_longer), .ref (aMo 34)])), ((aMo 3), .inl (ca 0, 11, .inl (zA mo_rules))), ((aMo 15), .inl (ca 0, 60, .inl (zA mo_runFrom))), ((aMo 16), .inl (ca 0, 60, .inl (zA mo_runTo))), ((aMo 25), .inl (ca 0, 12, .inl (zA mo_maybe))), ((aMo 26), .inl (ca 0, 62, .inl (zA (zU mo_dayFrom mo_days.toNat v2)))), ((aMo 27), .inl (ca 0, 62, .inl (zA (zU mo_dayTo mo_days.toNat mo_size)))), ((aMo 28), .inl (ca 0, 62, .inl (zA mo_dayRun)))]) 6 rfl rfl (Nat.le_of_ble_eq_true rfl) rfl dX11_parts_133 hf (fun hf => ?_)
          refine g_aload_n (pc := 134) C 0 dX11_parts_134 rfl rfl ?_
          refine g_get (pc := 135) C zf_X11_74 0 rfl rfl dX11_parts_135 ?_
          refine g_aload_n (pc := 138) C 0 dX11_parts_138 rfl rfl ?_
          refine g_get (pc := 139) C zf_X11_154 0 rfl rfl dX11_parts_139 ?_
          refine g_iconst (pc := 142) C dX11_parts_142 ?_
          refine g_iast (pc := 143) C (N := 62) (ws' := [((aMo 0), .inr (11, [.ref (aMo 1), .int (zI mo_taped), .ref (aMo 3), .ref (aMo 4), .ref (aMo 5), .ref (aMo 6), .ref (aMo 7), .ref (aMo 8), .ref (aMo 9), .ref (aMo 10), .ref (aMo 11), .ref (aMo 12), .ref (aMo 13), .ref (aMo 14), .ref (aMo 15), .ref (aMo 16), .int (zI mo_size), .int (zI mo_runs), .ref (aMo 19), .ref (aMo 20), .ref (aMo 21), .int (zI mo_found), .int (zI mo_counted), .int (zI mo_isParted), .ref (aMo 25), .ref (aMo 26), .ref (aMo 27), .ref (aMo 28), .ref (aMo 29), .int (zI mo_maybes), .int (zI mo_days), .int (zI mo_over2), .int (zI mo_longer), .ref (aMo 34)])), ((aMo 3), .inl (ca 0, 11, .inl (zA mo_rules))), ((aMo 15), .inl (ca 0, 60, .inl (zA mo_runFrom))), ((aMo 16), .inl (ca 0, 60, .inl (zA mo_runTo))), ((aMo 25), .inl (ca 0, 12, .inl (zA mo_maybe))), ((aMo 26), .inl (ca 0, 62, .inl (zA (zU mo_dayFrom mo_days.toNat v2)))), ((aMo 27), .inl (ca 0, 62, .inl (zA (zU mo_dayTo mo_days.toNat mo_size)))), ((aMo 28), .inl (ca 0, 62, .inl (zA (zU mo_dayRun mo_days.toNat (-1)))))]) 7 rfl rfl (Nat.le_of_ble_eq_true rfl) rfl dX11_parts_143 hf (fun hf => ?_)
          refine g_aload_n (pc := 144) C 0 dX11_parts_144 rfl rfl ?_
          refine g_aload_n (pc := 145) C 0 dX11_parts_145 rfl rfl ?_
          refine g_get (pc := 146) C zf_X11_154 0 rfl rfl dX11_parts_146 ?_
          refine g_iconst (pc := 149) C dX11_parts_149 ?_
          refine g_iadd (pc := 150) C dX11_parts_150 ?_
          refine g_put (pc := 151) C zf_X11_154 tyX11 tyX11_ok nmX11 (v := .int (zI (mo_days + 1))) (ws' := [((aMo 0), .inr (11, [.ref (aMo 1), .int (zI mo_taped), .ref (aMo 3), .ref (aMo 4), .ref (aMo 5), .ref (aMo 6), .ref (aMo 7), .ref (aMo 8), .ref (aMo 9), .ref (aMo 10), .ref (aMo 11), .ref (aMo 12), .ref (aMo 13), .ref (aMo 14), .ref (aMo 15), .ref (aMo 16), .int (zI mo_size), .int (zI mo_runs), .ref (aMo 19), .ref (aMo 20), .ref (aMo 21), .int (zI mo_found), .int (zI mo_counted), .int (zI mo_isParted), .ref (aMo 25), .ref (aMo 26), .ref (aMo 27), .ref (aMo 28), .ref (aMo 29), .int (zI mo_maybes), .int (zI (mo_days + 1)), .int (zI mo_over2), .int (zI mo_longer), .ref (aMo 34)])), ((aMo 3), .inl (ca 0, 11, .inl (zA mo_rules))), ((aMo 15), .inl (ca 0, 60, .inl (zA mo_runFrom))), ((aMo 16), .inl (ca 0, 60, .inl (zA mo_runTo))), ((aMo 25), .inl (ca 0, 12, .inl (zA mo_maybe))), ((aMo 26), .inl (ca 0, 62, .inl (zA (zU mo_dayFrom mo_days.toNat v2)))), ((aMo 27), .inl (ca 0, 62, .inl (zA (zU mo_dayTo mo_days.toNat mo_size)))), ((aMo 28), .inl (ca 0, 62, .inl (zA (zU mo_dayRun mo_days.toNat (-1)))))]) 0 rfl rfl rfl rfl rfl (Nat.le_of_ble_eq_true rfl) rfl rfl dX11_parts_151 ?_
          exact g_vret (pc := 154) C hf E rfl (fun _ => 0) [0, 1, 2, 3, 4, 5, 6, 7] (by decide) rfl rfl (Nat.le_refl _) (Nat.le_refl _) dX11_parts_154
        · exact g_vret (pc := 110) C hf E rfl (fun _ => 0) [0, 1, 2, 3, 4, 5, 6, 7] (by decide) rfl rfl (Nat.le_refl _) (Nat.le_refl _) dX11_parts_110
      · refine g_aload_n (pc := 17) C 0 dX11_parts_17 rfl rfl ?_
        refine g_iload_n (pc := 18) C 3 dX11_parts_18 rfl rfl ?_
        obtain ⟨r_19, hc_19, hf⟩ := Option.bind_eq_some_iff.mp hf
        refine g_callV (pc := 19) C hl0 (wr := [((aMo 3), .inl (ca 0, 11, .inl (zA mo_rules))), ((aMo 25), .inl (ca 0, 12, .inl (zA mo_maybe))), ((aMo 26), .inl (ca 0, 62, .inl (zA mo_dayFrom))), ((aMo 27), .inl (ca 0, 62, .inl (zA mo_dayTo))), ((aMo 28), .inl (ca 0, 62, .inl (zA mo_dayRun)))]) (k' := 0) (n' := 0) (ws' := fun _ => [((aMo 3), .inl (ca 0, 11, .inl (zA mo_rules))), ((aMo 25), .inl (ca 0, 12, .inl (zA mo_maybe))), ((aMo 26), .inl (ca 0, 62, .inl (zA mo_dayFrom))), ((aMo 27), .inl (ca 0, 62, .inl (zA mo_dayTo))), ((aMo 28), .inl (ca 0, 62, .inl (zA mo_dayRun))), ((aMo 0), .inr (11, [.ref (aMo 1), .int (zI mo_taped), .ref (aMo 3), .ref (aMo 4), .ref (aMo 5), .ref (aMo 6), .ref (aMo 7), .ref (aMo 8), .ref (aMo 9), .ref (aMo 10), .ref (aMo 11), .ref (aMo 12), .ref (aMo 13), .ref (aMo 14), .ref (aMo 15), .ref (aMo 16), .int (zI mo_size), .int (zI mo_runs), .ref (aMo 19), .ref (aMo 20), .ref (aMo 21), .int (zI mo_found), .int (zI mo_counted), .int (zI mo_isParted), .ref (aMo 25), .ref (aMo 26), .ref (aMo 27), .ref (aMo 28), .ref (aMo 29), .int (zI mo_maybes), .int (zI mo_days), .int (zI mo_over2), .int (zI mo_longer), .ref (aMo 34)])), ((aMo 15), .inl (ca 0, 60, .inl (zA mo_runFrom))), ((aMo 16), .inl (ca 0, 60, .inl (zA mo_runTo)))]) (st' := [.int (zI r_19)]) (kX11_runLength l D ca aMo mo_taped mo_runFrom mo_runTo mo_size mo_runs mo_found mo_counted mo_isParted mo_maybes mo_days mo_over2 mo_longer v3 r_19 hc_19) wml_RX11_141 wim_X11_runLength wse_X11_runLength win_RX11 wco_X11_runLength (nA := 1) rfl (by decide +kernel)  ⟨(Nat.le_of_ble_eq_true rfl), (Nat.le_of_ble_eq_true rfl)⟩ (Nat.le_refl _) (Nat.le_refl _) rfl (Nat.le_of_ble_eq_true rfl) dX11_parts_19 0 11 rfl rfl rfl [0, 2, 3] [1, 4, 5, 6, 7] rfl rfl rfl (by decide) (by decide) (by decide) rfl rfl (fun _ => rfl) rfl (fun _ => ?_)
        refine g_aload_n (pc := 22) C 0 dX11_parts_22 rfl rfl ?_
        refine g_get (pc := 23) C zf_X11_13 5 rfl rfl dX11_parts_23 ?_
        refine g_bipush (pc := 26) C dX11_parts_26 (by decide) ?_
        refine g_ialdK (pc := 28) C 7 0 rfl rfl (Nat.le_of_ble_eq_true rfl) (Nat.le_of_ble_eq_true rfl) dX11_parts_28 ?_
        refine g_icmp_ge (pc := 29) C (tgt := 44) dX11_parts_29 (by decide) hf (fun hf => ?_) (fun hf => ?_)
        · refine g_sub [5, 0, 6, 7, 1, 2, 3, 4] [0, 1, 2, 3] (by decide) rfl rfl rfl ?_
          exact H44 _ _ _ _ _ _ hf
        · refine g_aload_n (pc := 32) C 0 dX11_parts_32 rfl rfl ?_
          refine g_iload_n (pc := 33) C 3 dX11_parts_33 rfl rfl ?_
          refine g_iload_n (pc := 34) C 1 dX11_parts_34 rfl rfl ?_
          obtain ⟨r_35, hc_35, hf⟩ := Option.bind_eq_some_iff.mp hf
          refine g_callV (pc := 35) C hl0 (wr := [((aMo 3), .inl (ca 0, 11, .inl (zA mo_rules))), ((aMo 26), .inl (ca 0, 62, .inl (zA mo_dayFrom))), ((aMo 27), .inl (ca 0, 62, .inl (zA mo_dayTo))), ((aMo 28), .inl (ca 0, 62, .inl (zA mo_dayRun))), ((aMo 15), .inl (ca 0, 60, .inl (zA mo_runFrom))), ((aMo 16), .inl (ca 0, 60, .inl (zA mo_runTo)))]) (k' := 0) (n' := 0) (ws' := fun _ => [((aMo 3), .inl (ca 0, 11, .inl (zA mo_rules))), ((aMo 26), .inl (ca 0, 62, .inl (zA mo_dayFrom))), ((aMo 27), .inl (ca 0, 62, .inl (zA mo_dayTo))), ((aMo 28), .inl (ca 0, 62, .inl (zA mo_dayRun))), ((aMo 15), .inl (ca 0, 60, .inl (zA mo_runFrom))), ((aMo 16), .inl (ca 0, 60, .inl (zA mo_runTo))), ((aMo 0), .inr (11, [.ref (aMo 1), .int (zI mo_taped), .ref (aMo 3), .ref (aMo 4), .ref (aMo 5), .ref (aMo 6), .ref (aMo 7), .ref (aMo 8), .ref (aMo 9), .ref (aMo 10), .ref (aMo 11), .ref (aMo 12), .ref (aMo 13), .ref (aMo 14), .ref (aMo 15), .ref (aMo 16), .int (zI mo_size), .int (zI mo_runs), .ref (aMo 19), .ref (aMo 20), .ref (aMo 21), .int (zI mo_found), .int (zI mo_counted), .int (zI mo_isParted), .ref (aMo 25), .ref (aMo 26), .ref (aMo 27), .ref (aMo 28), .ref (aMo 29), .int (zI mo_maybes), .int (zI mo_days), .int (zI mo_over2), .int (zI mo_longer), .ref (aMo 34)])), ((aMo 25), .inl (ca 0, 12, .inl (zA mo_maybe)))]) (st' := [.int (zI r_35)]) (kX11_isTaken l D ca aMo mo_taped mo_size mo_runs mo_found mo_counted mo_isParted mo_maybe mo_maybes mo_days mo_over2 mo_longer v3 v1 r_35 hc_35) wml_RX11_157 wim_X11_isTaken wse_X11_isTaken win_RX11 wco_X11_isTaken (nA := 2) rfl (by decide +kernel)  ⟨(Nat.le_of_ble_eq_true rfl), (Nat.le_of_ble_eq_true rfl)⟩ (Nat.le_refl _) (Nat.le_refl _) rfl (Nat.le_of_ble_eq_true rfl) dX11_parts_35 5 11 rfl rfl rfl [5, 1] [0, 2, 3, 4, 6, 7] rfl rfl rfl (by decide) (by decide) (by decide) rfl rfl (fun _ => rfl) rfl (fun _ => ?_)
          refine g_if_ne (pc := 38) C (tgt := 44) dX11_parts_38 (by decide) hf (fun hf => ?_) (fun hf => ?_)
          · refine g_sub [6, 0, 4, 5, 7, 1, 2, 3] [0, 1, 2, 3] (by decide) rfl rfl rfl ?_
            exact H44 _ _ _ _ _ _ hf
          · refine g_goto (pc := 41) C (tgt := 96) dX11_parts_41 (by decide) ?_
            refine g_sub [6, 0, 4, 5, 7, 1, 2, 3] [0, 1, 2, 3] (by decide) rfl rfl rfl ?_
            exact H96 _ _ _ _ _ _ hf
  unfold fX11_parts at hf
  refine g_aload_n (pc := 0) C 0 dX11_parts_0 rfl rfl ?_
  refine g_iconst (pc := 1) C dX11_parts_1 ?_
  refine g_put (pc := 2) C zf_X11_154 tyX11 tyX11_ok nmX11 (v := .int (zI 0)) (ws' := [((aMo 0), .inr (11, [.ref (aMo 1), .int (zI mo_taped), .ref (aMo 3), .ref (aMo 4), .ref (aMo 5), .ref (aMo 6), .ref (aMo 7), .ref (aMo 8), .ref (aMo 9), .ref (aMo 10), .ref (aMo 11), .ref (aMo 12), .ref (aMo 13), .ref (aMo 14), .ref (aMo 15), .ref (aMo 16), .int (zI mo_size), .int (zI mo_runs), .ref (aMo 19), .ref (aMo 20), .ref (aMo 21), .int (zI mo_found), .int (zI mo_counted), .int (zI mo_isParted), .ref (aMo 25), .ref (aMo 26), .ref (aMo 27), .ref (aMo 28), .ref (aMo 29), .int (zI mo_maybes), .int (zI 0), .int (zI mo_over2), .int (zI mo_longer), .ref (aMo 34)])), ((aMo 3), .inl (ca 0, 11, .inl (zA mo_rules))), ((aMo 15), .inl (ca 0, 60, .inl (zA mo_runFrom))), ((aMo 16), .inl (ca 0, 60, .inl (zA mo_runTo))), ((aMo 25), .inl (ca 0, 12, .inl (zA mo_maybe))), ((aMo 26), .inl (ca 0, 62, .inl (zA mo_dayFrom))), ((aMo 27), .inl (ca 0, 62, .inl (zA mo_dayTo))), ((aMo 28), .inl (ca 0, 62, .inl (zA mo_dayRun)))]) 0 rfl rfl rfl rfl rfl (Nat.le_of_ble_eq_true rfl) rfl rfl dX11_parts_2 ?_
  refine g_iconst (pc := 5) C dX11_parts_5 ?_
  refine g_istore_n (pc := 6) C (lv' := [(2, .int (zI 0)), (0, .ref (aMo 0)), (1, .int (zI v1))]) dX11_parts_6 rfl (Nat.le_of_ble_eq_true rfl) rfl ?_
  refine g_iconst (pc := 7) C dX11_parts_7 ?_
  refine g_istore_n (pc := 8) C (lv' := [(3, .int (zI 0)), (2, .int (zI 0)), (0, .ref (aMo 0)), (1, .int (zI v1))]) dX11_parts_8 rfl (Nat.le_of_ble_eq_true rfl) rfl ?_
  refine g_sub [0, 1, 2, 3, 4, 5, 6, 7] [2, 3, 1, 0] (by decide) rfl rfl rfl ?_
  exact H9 _ _ _ _ _ _ _ hf
def oX11_driveIn (ca : Nat → ClassId) (aMo : Nat → Nat) (mo_taped : Int) (mo_driven : Nat → Int) (mo_size : Int) (mo_runs : Int) (mo_found : Int) (mo_counted : Int) (mo_isParted : Int) (mo_maybes : Int) (mo_days : Int) (mo_over2 : Int) (mo_longer : Int) (Ro : Int) : (Nat → Nat) → va_W := fun _ => [((aMo 0), .inr (11, [.ref (aMo 1), .int (zI mo_taped), .ref (aMo 3), .ref (aMo 4), .ref (aMo 5), .ref (aMo 6), .ref (aMo 7), .ref (aMo 8), .ref (aMo 9), .ref (aMo 10), .ref (aMo 11), .ref (aMo 12), .ref (aMo 13), .ref (aMo 14), .ref (aMo 15), .ref (aMo 16), .int (zI mo_size), .int (zI mo_runs), .ref (aMo 19), .ref (aMo 20), .ref (aMo 21), .int (zI mo_found), .int (zI mo_counted), .int (zI mo_isParted), .ref (aMo 25), .ref (aMo 26), .ref (aMo 27), .ref (aMo 28), .ref (aMo 29), .int (zI mo_maybes), .int (zI mo_days), .int (zI mo_over2), .int (zI mo_longer), .ref (aMo 34)])), ((aMo 14), .inl (ca 0, 20161, .inl (zA mo_driven)))]
def oiX11_driveIn (Ro : Int) : Option Value := (some (.int (zI Ro)))
set_option maxRecDepth 100000 in
theorem kX11_driveIn (l : Launch) (D : va_G) (ca : Nat → ClassId) (aMo : Nat → Nat) (mo_taped : Int) (mo_driven : Nat → Int) (mo_size : Int) (mo_runs : Int) (mo_found : Int) (mo_counted : Int) (mo_isParted : Int) (mo_maybes : Int) (mo_days : Int) (mo_over2 : Int) (mo_longer : Int) (v1 : Int) (v2 : Int) (Ro : Int)
    (hf : fX11_driveIn v1 v2 mo_driven = some Ro) : Zc l D ca yX11_driveIn cX11_driveIn 3 (some .int) { frames := 0, cells := 0, slots := 0, locals := 0 } [.ref (aMo 0), .int (zI v1), .int (zI v2)] [((aMo 0), .inr (11, [.ref (aMo 1), .int (zI mo_taped), .ref (aMo 3), .ref (aMo 4), .ref (aMo 5), .ref (aMo 6), .ref (aMo 7), .ref (aMo 8), .ref (aMo 9), .ref (aMo 10), .ref (aMo 11), .ref (aMo 12), .ref (aMo 13), .ref (aMo 14), .ref (aMo 15), .ref (aMo 16), .int (zI mo_size), .int (zI mo_runs), .ref (aMo 19), .ref (aMo 20), .ref (aMo 21), .int (zI mo_found), .int (zI mo_counted), .int (zI mo_isParted), .ref (aMo 25), .ref (aMo 26), .ref (aMo 27), .ref (aMo 28), .ref (aMo 29), .int (zI mo_maybes), .int (zI mo_days), .int (zI mo_over2), .int (zI mo_longer), .ref (aMo 34)])), ((aMo 14), .inl (ca 0, 20161, .inl (zA mo_driven)))] (oiX11_driveIn Ro) (oX11_driveIn ca aMo mo_taped mo_driven mo_size mo_runs mo_found mo_counted mo_isParted mo_maybes mo_days mo_over2 mo_longer Ro) := by
  refine ctr_of (lv := [(0, .ref (aMo 0)), (1, .int (zI v1)), (2, .int (zI v2))]) (by decide +kernel) (Nat.le_of_ble_eq_true rfl) rfl (fun Γ hl0 C E hnm => ?_)
  unfold fX11_driveIn at hf
  refine g_aload_n (pc := 0) C 0 dX11_driveIn_0 rfl rfl ?_
  refine g_get (pc := 1) C zf_X11_47 0 rfl rfl dX11_driveIn_1 ?_
  refine g_iload_n (pc := 4) C 2 dX11_driveIn_4 rfl rfl ?_
  refine g_iald (pc := 5) C (N := 20161) 1 rfl rfl (Nat.le_of_ble_eq_true rfl) dX11_driveIn_5 hf (fun hf => ?_)
  refine g_aload_n (pc := 6) C 0 dX11_driveIn_6 rfl rfl ?_
  refine g_get (pc := 7) C zf_X11_47 0 rfl rfl dX11_driveIn_7 ?_
  refine g_iload_n (pc := 10) C 1 dX11_driveIn_10 rfl rfl ?_
  refine g_iald (pc := 11) C (N := 20161) 1 rfl rfl (Nat.le_of_ble_eq_true rfl) dX11_driveIn_11 hf (fun hf => ?_)
  refine g_isub (pc := 12) C dX11_driveIn_12 ?_
  exact g_iret (pc := 13) C hf E rfl (fun _ => 0) [0, 1] (by decide) rfl rfl (Nat.le_refl _) (Nat.le_refl _) dX11_driveIn_13
def oX11_overOf (ca : Nat → ClassId) (aMo : Nat → Nat) (mo_taped : Int) (mo_rules : Nat → Int) (mo_driven : Nat → Int) (mo_size : Int) (mo_runs : Int) (mo_found : Int) (mo_counted : Int) (mo_isParted : Int) (mo_dayFrom : Nat → Int) (mo_dayTo : Nat → Int) (mo_maybes : Int) (mo_days : Int) (mo_over2 : Int) (mo_longer : Int) (Ro : Int) : (Nat → Nat) → va_W := fun _ => [((aMo 0), .inr (11, [.ref (aMo 1), .int (zI mo_taped), .ref (aMo 3), .ref (aMo 4), .ref (aMo 5), .ref (aMo 6), .ref (aMo 7), .ref (aMo 8), .ref (aMo 9), .ref (aMo 10), .ref (aMo 11), .ref (aMo 12), .ref (aMo 13), .ref (aMo 14), .ref (aMo 15), .ref (aMo 16), .int (zI mo_size), .int (zI mo_runs), .ref (aMo 19), .ref (aMo 20), .ref (aMo 21), .int (zI mo_found), .int (zI mo_counted), .int (zI mo_isParted), .ref (aMo 25), .ref (aMo 26), .ref (aMo 27), .ref (aMo 28), .ref (aMo 29), .int (zI mo_maybes), .int (zI mo_days), .int (zI mo_over2), .int (zI mo_longer), .ref (aMo 34)])), ((aMo 3), .inl (ca 0, 11, .inl (zA mo_rules))), ((aMo 14), .inl (ca 0, 20161, .inl (zA mo_driven))), ((aMo 26), .inl (ca 0, 62, .inl (zA mo_dayFrom))), ((aMo 27), .inl (ca 0, 62, .inl (zA mo_dayTo)))]
def oiX11_overOf (Ro : Int) : Option Value := (some (.int (zI Ro)))
set_option maxRecDepth 100000 in
theorem kX11_overOf (l : Launch) (D : va_G) (ca : Nat → ClassId) (aMo : Nat → Nat) (mo_taped : Int) (mo_rules : Nat → Int) (mo_driven : Nat → Int) (mo_size : Int) (mo_runs : Int) (mo_found : Int) (mo_counted : Int) (mo_isParted : Int) (mo_dayFrom : Nat → Int) (mo_dayTo : Nat → Int) (mo_maybes : Int) (mo_days : Int) (mo_over2 : Int) (mo_longer : Int) (v1 : Int) (v2 : Int) (Ro : Int)
    (hf : fX11_overOf v1 v2 mo_rules mo_driven mo_dayFrom mo_dayTo = some Ro) : Zc l D ca yX11_overOf cX11_overOf 4 (some .int) { frames := 1, cells := 0, slots := 0, locals := 22 } [.ref (aMo 0), .int (zI v1), .int (zI v2)] [((aMo 0), .inr (11, [.ref (aMo 1), .int (zI mo_taped), .ref (aMo 3), .ref (aMo 4), .ref (aMo 5), .ref (aMo 6), .ref (aMo 7), .ref (aMo 8), .ref (aMo 9), .ref (aMo 10), .ref (aMo 11), .ref (aMo 12), .ref (aMo 13), .ref (aMo 14), .ref (aMo 15), .ref (aMo 16), .int (zI mo_size), .int (zI mo_runs), .ref (aMo 19), .ref (aMo 20), .ref (aMo 21), .int (zI mo_found), .int (zI mo_counted), .int (zI mo_isParted), .ref (aMo 25), .ref (aMo 26), .ref (aMo 27), .ref (aMo 28), .ref (aMo 29), .int (zI mo_maybes), .int (zI mo_days), .int (zI mo_over2), .int (zI mo_longer), .ref (aMo 34)])), ((aMo 3), .inl (ca 0, 11, .inl (zA mo_rules))), ((aMo 14), .inl (ca 0, 20161, .inl (zA mo_driven))), ((aMo 26), .inl (ca 0, 62, .inl (zA mo_dayFrom))), ((aMo 27), .inl (ca 0, 62, .inl (zA mo_dayTo)))] (oiX11_overOf Ro) (oX11_overOf ca aMo mo_taped mo_rules mo_driven mo_size mo_runs mo_found mo_counted mo_isParted mo_dayFrom mo_dayTo mo_maybes mo_days mo_over2 mo_longer Ro) := by
  refine ctr_of (lv := [(0, .ref (aMo 0)), (1, .int (zI v1)), (2, .int (zI v2))]) (by decide +kernel) (Nat.le_of_ble_eq_true rfl) rfl (fun Γ hl0 C E hnm => ?_)
  have H29 : ∀ (s0 : Int) (s2 : Int), fX11_overOf_29 s0 s2 mo_rules = some Ro → Zd D Γ 0 0 [((aMo 0), .inr (11, [.ref (aMo 1), .int (zI mo_taped), .ref (aMo 3), .ref (aMo 4), .ref (aMo 5), .ref (aMo 6), .ref (aMo 7), .ref (aMo 8), .ref (aMo 9), .ref (aMo 10), .ref (aMo 11), .ref (aMo 12), .ref (aMo 13), .ref (aMo 14), .ref (aMo 15), .ref (aMo 16), .int (zI mo_size), .int (zI mo_runs), .ref (aMo 19), .ref (aMo 20), .ref (aMo 21), .int (zI mo_found), .int (zI mo_counted), .int (zI mo_isParted), .ref (aMo 25), .ref (aMo 26), .ref (aMo 27), .ref (aMo 28), .ref (aMo 29), .int (zI mo_maybes), .int (zI mo_days), .int (zI mo_over2), .int (zI mo_longer), .ref (aMo 34)])), ((aMo 3), .inl (ca 0, 11, .inl (zA mo_rules))), ((aMo 14), .inl (ca 0, 20161, .inl (zA mo_driven))), ((aMo 26), .inl (ca 0, 62, .inl (zA mo_dayFrom))), ((aMo 27), .inl (ca 0, 62, .inl (zA mo_dayTo)))] 29 [] [.int (zI s2), .ref (aMo 3), .int (zI s0)] := by
    intro s0 s2 hf
    unfold fX11_overOf_29 at hf
    refine g_iald (pc := 29) C (N := 11) 1 rfl rfl (Nat.le_of_ble_eq_true rfl) dX11_overOf_29 hf (fun hf => ?_)
    refine g_isub (pc := 30) C dX11_overOf_30 ?_
    refine g_istore_n (pc := 31) C (lv' := [(3, .int (zI (s0 - (mo_rules s2.toNat))))]) dX11_overOf_31 rfl (Nat.le_of_ble_eq_true rfl) rfl ?_
    refine g_iload_n (pc := 32) C 0 dX11_overOf_32 rfl rfl ?_
    refine g_if_le (pc := 33) C (tgt := 40) dX11_overOf_33 (by decide) hf (fun hf => ?_) (fun hf => ?_)
    · refine g_iconst (pc := 40) C dX11_overOf_40 ?_
      exact g_iret (pc := 41) C hf E rfl (fun _ => 0) [0, 1, 2, 3, 4] (by decide) rfl rfl (Nat.le_refl _) (Nat.le_refl _) dX11_overOf_41
    · refine g_iload_n (pc := 36) C 0 dX11_overOf_36 rfl rfl ?_
      refine g_goto (pc := 37) C (tgt := 41) dX11_overOf_37 (by decide) ?_
      exact g_iret (pc := 41) C hf E rfl (fun _ => 0) [0, 1, 2, 3, 4] (by decide) rfl rfl (Nat.le_refl _) (Nat.le_refl _) dX11_overOf_41
  unfold fX11_overOf at hf
  refine g_aload_n (pc := 0) C 0 dX11_overOf_0 rfl rfl ?_
  refine g_aload_n (pc := 1) C 0 dX11_overOf_1 rfl rfl ?_
  refine g_get (pc := 2) C zf_X11_68 0 rfl rfl dX11_overOf_2 ?_
  refine g_iload_n (pc := 5) C 1 dX11_overOf_5 rfl rfl ?_
  refine g_iald (pc := 6) C (N := 62) 3 rfl rfl (Nat.le_of_ble_eq_true rfl) dX11_overOf_6 hf (fun hf => ?_)
  refine g_aload_n (pc := 7) C 0 dX11_overOf_7 rfl rfl ?_
  refine g_get (pc := 8) C zf_X11_71 0 rfl rfl dX11_overOf_8 ?_
  refine g_iload_n (pc := 11) C 1 dX11_overOf_11 rfl rfl ?_
  refine g_iald (pc := 12) C (N := 62) 4 rfl rfl (Nat.le_of_ble_eq_true rfl) dX11_overOf_12 hf (fun hf => ?_)
  obtain ⟨r_13, hc_13, hf⟩ := Option.bind_eq_some_iff.mp hf
  refine g_callV (pc := 13) C hl0 (wr := [((aMo 3), .inl (ca 0, 11, .inl (zA mo_rules))), ((aMo 26), .inl (ca 0, 62, .inl (zA mo_dayFrom))), ((aMo 27), .inl (ca 0, 62, .inl (zA mo_dayTo)))]) (k' := 0) (n' := 0) (ws' := fun _ => [((aMo 3), .inl (ca 0, 11, .inl (zA mo_rules))), ((aMo 26), .inl (ca 0, 62, .inl (zA mo_dayFrom))), ((aMo 27), .inl (ca 0, 62, .inl (zA mo_dayTo))), ((aMo 0), .inr (11, [.ref (aMo 1), .int (zI mo_taped), .ref (aMo 3), .ref (aMo 4), .ref (aMo 5), .ref (aMo 6), .ref (aMo 7), .ref (aMo 8), .ref (aMo 9), .ref (aMo 10), .ref (aMo 11), .ref (aMo 12), .ref (aMo 13), .ref (aMo 14), .ref (aMo 15), .ref (aMo 16), .int (zI mo_size), .int (zI mo_runs), .ref (aMo 19), .ref (aMo 20), .ref (aMo 21), .int (zI mo_found), .int (zI mo_counted), .int (zI mo_isParted), .ref (aMo 25), .ref (aMo 26), .ref (aMo 27), .ref (aMo 28), .ref (aMo 29), .int (zI mo_maybes), .int (zI mo_days), .int (zI mo_over2), .int (zI mo_longer), .ref (aMo 34)])), ((aMo 14), .inl (ca 0, 20161, .inl (zA mo_driven)))]) (st' := [.int (zI r_13)]) (kX11_driveIn l D ca aMo mo_taped mo_driven mo_size mo_runs mo_found mo_counted mo_isParted mo_maybes mo_days mo_over2 mo_longer (mo_dayFrom v1.toNat) (mo_dayTo v1.toNat) r_13 hc_13) wml_RX11_160 wim_X11_driveIn wse_X11_driveIn win_RX11 wco_X11_driveIn (nA := 2) rfl (by decide +kernel)  ⟨(Nat.le_of_ble_eq_true rfl), (Nat.le_of_ble_eq_true rfl)⟩ (Nat.le_refl _) (Nat.le_refl _) rfl (Nat.le_of_ble_eq_true rfl) dX11_overOf_13 0 11 rfl rfl rfl [0, 2] [1, 3, 4] rfl rfl rfl (by decide) (by decide) (by decide) rfl rfl (fun _ => rfl) rfl (fun _ => ?_)
  refine g_aload_n (pc := 16) C 0 dX11_overOf_16 rfl rfl ?_
  refine g_get (pc := 17) C zf_X11_13 3 rfl rfl dX11_overOf_17 ?_
  refine g_iload_n (pc := 20) C 2 dX11_overOf_20 rfl rfl ?_
  refine g_if_eq (pc := 21) C (tgt := 28) dX11_overOf_21 (by decide) hf (fun hf => ?_) (fun hf => ?_)
  · refine g_iconst (pc := 28) C dX11_overOf_28 ?_
    refine g_sub [3, 0, 4, 1, 2] [] (by decide) rfl rfl rfl ?_
    exact H29 _ _ hf
  · refine g_iconst (pc := 24) C dX11_overOf_24 ?_
    refine g_goto (pc := 25) C (tgt := 29) dX11_overOf_25 (by decide) ?_
    refine g_sub [3, 0, 4, 1, 2] [] (by decide) rfl rfl rfl ?_
    exact H29 _ _ hf
def oX11_extendsDays (ca : Nat → ClassId) (aMo : Nat → Nat) (mo_taped : Int) (mo_rules : Nat → Int) (mo_driven : Nat → Int) (mo_size : Int) (mo_runs : Int) (mo_found : Int) (mo_counted : Int) (mo_isParted : Int) (mo_dayFrom : Nat → Int) (mo_dayTo : Nat → Int) (mo_maybes : Int) (mo_days : Int) (mo_over2 : Int) (Ro : (Nat → Int) × Int) : (Nat → Nat) → va_W := fun _ => [((aMo 0), .inr (11, [.ref (aMo 1), .int (zI mo_taped), .ref (aMo 3), .ref (aMo 4), .ref (aMo 5), .ref (aMo 6), .ref (aMo 7), .ref (aMo 8), .ref (aMo 9), .ref (aMo 10), .ref (aMo 11), .ref (aMo 12), .ref (aMo 13), .ref (aMo 14), .ref (aMo 15), .ref (aMo 16), .int (zI mo_size), .int (zI mo_runs), .ref (aMo 19), .ref (aMo 20), .ref (aMo 21), .int (zI mo_found), .int (zI mo_counted), .int (zI mo_isParted), .ref (aMo 25), .ref (aMo 26), .ref (aMo 27), .ref (aMo 28), .ref (aMo 29), .int (zI mo_maybes), .int (zI mo_days), .int (zI mo_over2), .int (zI (Ro.2)), .ref (aMo 34)])), ((aMo 3), .inl (ca 0, 11, .inl (zA mo_rules))), ((aMo 14), .inl (ca 0, 20161, .inl (zA mo_driven))), ((aMo 26), .inl (ca 0, 62, .inl (zA mo_dayFrom))), ((aMo 27), .inl (ca 0, 62, .inl (zA mo_dayTo))), ((aMo 29), .inl (ca 3, 62, .inl (zA (Ro.1))))]
def oiX11_extendsDays (Ro : (Nat → Int) × Int) : Option Value := none
set_option maxRecDepth 100000 in
theorem kX11_extendsDays (l : Launch) (D : va_G) (ca : Nat → ClassId) (aMo : Nat → Nat) (mo_taped : Int) (mo_rules : Nat → Int) (mo_driven : Nat → Int) (mo_size : Int) (mo_runs : Int) (mo_found : Int) (mo_counted : Int) (mo_isParted : Int) (mo_dayFrom : Nat → Int) (mo_dayTo : Nat → Int) (mo_isLonger : Nat → Int) (mo_maybes : Int) (mo_days : Int) (mo_over2 : Int) (mo_longer : Int)  (Ro : (Nat → Int) × Int)
    (hf : fX11_extendsDays mo_rules mo_driven mo_dayFrom mo_dayTo mo_isLonger mo_days mo_longer = some Ro) : Zc l D ca yX11_extendsDays cX11_extendsDays 8 none { frames := 2, cells := 0, slots := 0, locals := 45 } [.ref (aMo 0)] [((aMo 0), .inr (11, [.ref (aMo 1), .int (zI mo_taped), .ref (aMo 3), .ref (aMo 4), .ref (aMo 5), .ref (aMo 6), .ref (aMo 7), .ref (aMo 8), .ref (aMo 9), .ref (aMo 10), .ref (aMo 11), .ref (aMo 12), .ref (aMo 13), .ref (aMo 14), .ref (aMo 15), .ref (aMo 16), .int (zI mo_size), .int (zI mo_runs), .ref (aMo 19), .ref (aMo 20), .ref (aMo 21), .int (zI mo_found), .int (zI mo_counted), .int (zI mo_isParted), .ref (aMo 25), .ref (aMo 26), .ref (aMo 27), .ref (aMo 28), .ref (aMo 29), .int (zI mo_maybes), .int (zI mo_days), .int (zI mo_over2), .int (zI mo_longer), .ref (aMo 34)])), ((aMo 3), .inl (ca 0, 11, .inl (zA mo_rules))), ((aMo 14), .inl (ca 0, 20161, .inl (zA mo_driven))), ((aMo 26), .inl (ca 0, 62, .inl (zA mo_dayFrom))), ((aMo 27), .inl (ca 0, 62, .inl (zA mo_dayTo))), ((aMo 29), .inl (ca 3, 62, .inl (zA mo_isLonger)))] (oiX11_extendsDays Ro) (oX11_extendsDays ca aMo mo_taped mo_rules mo_driven mo_size mo_runs mo_found mo_counted mo_isParted mo_dayFrom mo_dayTo mo_maybes mo_days mo_over2 Ro) := by
  refine ctr_of (lv := [(0, .ref (aMo 0))]) (by decide +kernel) (Nat.le_of_ble_eq_true rfl) rfl (fun Γ hl0 C E hnm => ?_)
  have H30 : ∀  (n30 : Nat) (v1 : Int) (mo_isLonger : Nat → Int) (mo_longer : Int), zlp (fX11_extendsDays_30 mo_rules mo_driven mo_dayFrom mo_dayTo mo_days) n30 (v1, mo_isLonger, mo_longer) = some Ro → Zd D Γ 0 0 [((aMo 0), .inr (11, [.ref (aMo 1), .int (zI mo_taped), .ref (aMo 3), .ref (aMo 4), .ref (aMo 5), .ref (aMo 6), .ref (aMo 7), .ref (aMo 8), .ref (aMo 9), .ref (aMo 10), .ref (aMo 11), .ref (aMo 12), .ref (aMo 13), .ref (aMo 14), .ref (aMo 15), .ref (aMo 16), .int (zI mo_size), .int (zI mo_runs), .ref (aMo 19), .ref (aMo 20), .ref (aMo 21), .int (zI mo_found), .int (zI mo_counted), .int (zI mo_isParted), .ref (aMo 25), .ref (aMo 26), .ref (aMo 27), .ref (aMo 28), .ref (aMo 29), .int (zI mo_maybes), .int (zI mo_days), .int (zI mo_over2), .int (zI mo_longer), .ref (aMo 34)])), ((aMo 3), .inl (ca 0, 11, .inl (zA mo_rules))), ((aMo 14), .inl (ca 0, 20161, .inl (zA mo_driven))), ((aMo 26), .inl (ca 0, 62, .inl (zA mo_dayFrom))), ((aMo 27), .inl (ca 0, 62, .inl (zA mo_dayTo))), ((aMo 29), .inl (ca 3, 62, .inl (zA mo_isLonger)))] 30 [(0, .ref (aMo 0)), (1, .int (zI v1))] [] := by
    intro n30
    induction n30 with
    | zero =>
      intro v1 mo_isLonger mo_longer hf
      exact zno hf
    | succ n30 ih30 =>
      have H181 : ∀ (v1 : Int) (mo_isLonger : Nat → Int) (mo_longer : Int), fX11_extendsDays_181 (zlp (fX11_extendsDays_30 mo_rules mo_driven mo_dayFrom mo_dayTo mo_days) n30) v1 mo_isLonger mo_longer = some Ro → Zd D Γ 0 0 [((aMo 0), .inr (11, [.ref (aMo 1), .int (zI mo_taped), .ref (aMo 3), .ref (aMo 4), .ref (aMo 5), .ref (aMo 6), .ref (aMo 7), .ref (aMo 8), .ref (aMo 9), .ref (aMo 10), .ref (aMo 11), .ref (aMo 12), .ref (aMo 13), .ref (aMo 14), .ref (aMo 15), .ref (aMo 16), .int (zI mo_size), .int (zI mo_runs), .ref (aMo 19), .ref (aMo 20), .ref (aMo 21), .int (zI mo_found), .int (zI mo_counted), .int (zI mo_isParted), .ref (aMo 25), .ref (aMo 26), .ref (aMo 27), .ref (aMo 28), .ref (aMo 29), .int (zI mo_maybes), .int (zI mo_days), .int (zI mo_over2), .int (zI mo_longer), .ref (aMo 34)])), ((aMo 3), .inl (ca 0, 11, .inl (zA mo_rules))), ((aMo 14), .inl (ca 0, 20161, .inl (zA mo_driven))), ((aMo 26), .inl (ca 0, 62, .inl (zA mo_dayFrom))), ((aMo 27), .inl (ca 0, 62, .inl (zA mo_dayTo))), ((aMo 29), .inl (ca 3, 62, .inl (zA mo_isLonger)))] 181 [(0, .ref (aMo 0)), (1, .int (zI v1))] [] := by
        intro v1 mo_isLonger mo_longer hf
        unfold fX11_extendsDays_181 at hf
        refine g_iinc (pc := 181) C 1 (lv' := [(1, .int (zI (v1 + 1))), (0, .ref (aMo 0))]) dX11_extendsDays_181 rfl (Nat.le_of_ble_eq_true rfl) rfl ?_
        refine g_goto (pc := 184) C (tgt := 30) dX11_extendsDays_184 (by decide) ?_
        refine g_sub [0, 1, 2, 3, 4, 5] [1, 0] (by decide) rfl rfl rfl ?_
        exact ih30 _ _ _ hf
      have H39 : ∀ (v1 : Int) (n39 : Nat) (v2 : Int) (v3 : Int) (mo_isLonger : Nat → Int) (mo_longer : Int), zlp (fX11_extendsDays_39 (zlp (fX11_extendsDays_30 mo_rules mo_driven mo_dayFrom mo_dayTo mo_days) n30) v1 mo_rules mo_driven mo_dayFrom mo_dayTo mo_days) n39 (v2, v3, mo_isLonger, mo_longer) = some Ro → Zd D Γ 0 0 [((aMo 0), .inr (11, [.ref (aMo 1), .int (zI mo_taped), .ref (aMo 3), .ref (aMo 4), .ref (aMo 5), .ref (aMo 6), .ref (aMo 7), .ref (aMo 8), .ref (aMo 9), .ref (aMo 10), .ref (aMo 11), .ref (aMo 12), .ref (aMo 13), .ref (aMo 14), .ref (aMo 15), .ref (aMo 16), .int (zI mo_size), .int (zI mo_runs), .ref (aMo 19), .ref (aMo 20), .ref (aMo 21), .int (zI mo_found), .int (zI mo_counted), .int (zI mo_isParted), .ref (aMo 25), .ref (aMo 26), .ref (aMo 27), .ref (aMo 28), .ref (aMo 29), .int (zI mo_maybes), .int (zI mo_days), .int (zI mo_over2), .int (zI mo_longer), .ref (aMo 34)])), ((aMo 3), .inl (ca 0, 11, .inl (zA mo_rules))), ((aMo 14), .inl (ca 0, 20161, .inl (zA mo_driven))), ((aMo 26), .inl (ca 0, 62, .inl (zA mo_dayFrom))), ((aMo 27), .inl (ca 0, 62, .inl (zA mo_dayTo))), ((aMo 29), .inl (ca 3, 62, .inl (zA mo_isLonger)))] 39 [(0, .ref (aMo 0)), (1, .int (zI v1)), (2, .int (zI v2)), (3, .int (zI v3))] [] := by
        intro v1
        intro n39
        induction n39 with
        | zero =>
          intro v2 v3 mo_isLonger mo_longer hf
          exact zno hf
        | succ n39 ih39 =>
          have H175 : ∀ (v2 : Int) (v3 : Int) (mo_isLonger : Nat → Int) (mo_longer : Int), fX11_extendsDays_175 (zlp (fX11_extendsDays_39 (zlp (fX11_extendsDays_30 mo_rules mo_driven mo_dayFrom mo_dayTo mo_days) n30) v1 mo_rules mo_driven mo_dayFrom mo_dayTo mo_days) n39) v2 v3 mo_isLonger mo_longer = some Ro → Zd D Γ 0 0 [((aMo 0), .inr (11, [.ref (aMo 1), .int (zI mo_taped), .ref (aMo 3), .ref (aMo 4), .ref (aMo 5), .ref (aMo 6), .ref (aMo 7), .ref (aMo 8), .ref (aMo 9), .ref (aMo 10), .ref (aMo 11), .ref (aMo 12), .ref (aMo 13), .ref (aMo 14), .ref (aMo 15), .ref (aMo 16), .int (zI mo_size), .int (zI mo_runs), .ref (aMo 19), .ref (aMo 20), .ref (aMo 21), .int (zI mo_found), .int (zI mo_counted), .int (zI mo_isParted), .ref (aMo 25), .ref (aMo 26), .ref (aMo 27), .ref (aMo 28), .ref (aMo 29), .int (zI mo_maybes), .int (zI mo_days), .int (zI mo_over2), .int (zI mo_longer), .ref (aMo 34)])), ((aMo 3), .inl (ca 0, 11, .inl (zA mo_rules))), ((aMo 14), .inl (ca 0, 20161, .inl (zA mo_driven))), ((aMo 26), .inl (ca 0, 62, .inl (zA mo_dayFrom))), ((aMo 27), .inl (ca 0, 62, .inl (zA mo_dayTo))), ((aMo 29), .inl (ca 3, 62, .inl (zA mo_isLonger)))] 175 [(0, .ref (aMo 0)), (1, .int (zI v1)), (2, .int (zI v2)), (3, .int (zI v3))] [] := by
            intro v2 v3 mo_isLonger mo_longer hf
            unfold fX11_extendsDays_175 at hf
            refine g_iinc (pc := 175) C 3 (lv' := [(3, .int (zI (v3 + 1))), (0, .ref (aMo 0)), (1, .int (zI v1)), (2, .int (zI v2))]) dX11_extendsDays_175 rfl (Nat.le_of_ble_eq_true rfl) rfl ?_
            refine g_goto (pc := 178) C (tgt := 39) dX11_extendsDays_178 (by decide) ?_
            refine g_sub [0, 1, 2, 3, 4, 5] [1, 2, 3, 0] (by decide) rfl rfl rfl ?_
            exact ih39 _ _ _ _ hf
          have H149 : ∀ (v3 : Int) (v4 : Int) (s0 : Int) (mo_isLonger : Nat → Int) (mo_longer : Int), fX11_extendsDays_149 (zlp (fX11_extendsDays_39 (zlp (fX11_extendsDays_30 mo_rules mo_driven mo_dayFrom mo_dayTo mo_days) n30) v1 mo_rules mo_driven mo_dayFrom mo_dayTo mo_days) n39) v3 v4 s0 mo_isLonger mo_longer = some Ro → Zd D Γ 0 0 [((aMo 0), .inr (11, [.ref (aMo 1), .int (zI mo_taped), .ref (aMo 3), .ref (aMo 4), .ref (aMo 5), .ref (aMo 6), .ref (aMo 7), .ref (aMo 8), .ref (aMo 9), .ref (aMo 10), .ref (aMo 11), .ref (aMo 12), .ref (aMo 13), .ref (aMo 14), .ref (aMo 15), .ref (aMo 16), .int (zI mo_size), .int (zI mo_runs), .ref (aMo 19), .ref (aMo 20), .ref (aMo 21), .int (zI mo_found), .int (zI mo_counted), .int (zI mo_isParted), .ref (aMo 25), .ref (aMo 26), .ref (aMo 27), .ref (aMo 28), .ref (aMo 29), .int (zI mo_maybes), .int (zI mo_days), .int (zI mo_over2), .int (zI mo_longer), .ref (aMo 34)])), ((aMo 3), .inl (ca 0, 11, .inl (zA mo_rules))), ((aMo 14), .inl (ca 0, 20161, .inl (zA mo_driven))), ((aMo 26), .inl (ca 0, 62, .inl (zA mo_dayFrom))), ((aMo 27), .inl (ca 0, 62, .inl (zA mo_dayTo))), ((aMo 29), .inl (ca 3, 62, .inl (zA mo_isLonger)))] 149 [(0, .ref (aMo 0)), (1, .int (zI v1)), (3, .int (zI v3)), (4, .int (zI v4))] [.int (zI s0)] := by
            intro v3 v4 s0 mo_isLonger mo_longer hf
            unfold fX11_extendsDays_149 at hf
            refine g_istore_n (pc := 149) C (lv' := [(2, .int (zI s0)), (0, .ref (aMo 0)), (1, .int (zI v1)), (3, .int (zI v3)), (4, .int (zI v4))]) dX11_extendsDays_149 rfl (Nat.le_of_ble_eq_true rfl) rfl ?_
            refine g_iload_n (pc := 150) C 0 dX11_extendsDays_150 rfl rfl ?_
            refine g_if_ne (pc := 151) C (tgt := 157) dX11_extendsDays_151 (by decide) hf (fun hf => ?_) (fun hf => ?_)
            · refine g_aload_n (pc := 157) C 1 dX11_extendsDays_157 rfl rfl ?_
              refine g_get (pc := 158) C zf_X11_77 0 rfl rfl dX11_extendsDays_158 ?_
              refine g_iload (pc := 161) C 4 dX11_extendsDays_161 rfl ?_
              refine g_iconst (pc := 163) C dX11_extendsDays_163 ?_
              refine g_zast (pc := 164) C (N := 62) (ws' := [((aMo 0), .inr (11, [.ref (aMo 1), .int (zI mo_taped), .ref (aMo 3), .ref (aMo 4), .ref (aMo 5), .ref (aMo 6), .ref (aMo 7), .ref (aMo 8), .ref (aMo 9), .ref (aMo 10), .ref (aMo 11), .ref (aMo 12), .ref (aMo 13), .ref (aMo 14), .ref (aMo 15), .ref (aMo 16), .int (zI mo_size), .int (zI mo_runs), .ref (aMo 19), .ref (aMo 20), .ref (aMo 21), .int (zI mo_found), .int (zI mo_counted), .int (zI mo_isParted), .ref (aMo 25), .ref (aMo 26), .ref (aMo 27), .ref (aMo 28), .ref (aMo 29), .int (zI mo_maybes), .int (zI mo_days), .int (zI mo_over2), .int (zI mo_longer), .ref (aMo 34)])), ((aMo 3), .inl (ca 0, 11, .inl (zA mo_rules))), ((aMo 14), .inl (ca 0, 20161, .inl (zA mo_driven))), ((aMo 26), .inl (ca 0, 62, .inl (zA mo_dayFrom))), ((aMo 27), .inl (ca 0, 62, .inl (zA mo_dayTo))), ((aMo 29), .inl (ca 3, 62, .inl (zA (zU mo_isLonger v4.toNat 1))))]) 5 rfl rfl (Nat.le_of_ble_eq_true rfl) (by decide) rfl dX11_extendsDays_164 hf (fun hf => ?_)
              refine g_aload_n (pc := 165) C 1 dX11_extendsDays_165 rfl rfl ?_
              refine g_aload_n (pc := 166) C 1 dX11_extendsDays_166 rfl rfl ?_
              refine g_get (pc := 167) C zf_X11_164 0 rfl rfl dX11_extendsDays_167 ?_
              refine g_iconst (pc := 170) C dX11_extendsDays_170 ?_
              refine g_iadd (pc := 171) C dX11_extendsDays_171 ?_
              refine g_put (pc := 172) C zf_X11_164 tyX11 tyX11_ok nmX11 (v := .int (zI (mo_longer + 1))) (ws' := [((aMo 0), .inr (11, [.ref (aMo 1), .int (zI mo_taped), .ref (aMo 3), .ref (aMo 4), .ref (aMo 5), .ref (aMo 6), .ref (aMo 7), .ref (aMo 8), .ref (aMo 9), .ref (aMo 10), .ref (aMo 11), .ref (aMo 12), .ref (aMo 13), .ref (aMo 14), .ref (aMo 15), .ref (aMo 16), .int (zI mo_size), .int (zI mo_runs), .ref (aMo 19), .ref (aMo 20), .ref (aMo 21), .int (zI mo_found), .int (zI mo_counted), .int (zI mo_isParted), .ref (aMo 25), .ref (aMo 26), .ref (aMo 27), .ref (aMo 28), .ref (aMo 29), .int (zI mo_maybes), .int (zI mo_days), .int (zI mo_over2), .int (zI (mo_longer + 1)), .ref (aMo 34)])), ((aMo 3), .inl (ca 0, 11, .inl (zA mo_rules))), ((aMo 14), .inl (ca 0, 20161, .inl (zA mo_driven))), ((aMo 26), .inl (ca 0, 62, .inl (zA mo_dayFrom))), ((aMo 27), .inl (ca 0, 62, .inl (zA mo_dayTo))), ((aMo 29), .inl (ca 3, 62, .inl (zA (zU mo_isLonger v4.toNat 1))))]) 0 rfl rfl rfl rfl rfl (Nat.le_of_ble_eq_true rfl) rfl rfl dX11_extendsDays_172 ?_
              refine g_sub [0, 1, 2, 3, 4, 5] [1, 2, 0, 3] (by decide) rfl rfl rfl ?_
              exact H175 _ _ _ _ hf
            · refine g_goto (pc := 154) C (tgt := 175) dX11_extendsDays_154 (by decide) ?_
              refine g_sub [0, 1, 2, 3, 4, 5] [1, 2, 0, 3] (by decide) rfl rfl rfl ?_
              exact H175 _ _ _ _ hf
          have H63 : ∀ (v3 : Int) (mo_isLonger : Nat → Int) (mo_longer : Int) (n63 : Nat) (v4 : Int) (v5 : Int) (v6 : Int), zlp (fX11_extendsDays_63 (zlp (fX11_extendsDays_39 (zlp (fX11_extendsDays_30 mo_rules mo_driven mo_dayFrom mo_dayTo mo_days) n30) v1 mo_rules mo_driven mo_dayFrom mo_dayTo mo_days) n39) v1 v3 mo_rules mo_driven mo_dayFrom mo_dayTo mo_isLonger mo_days mo_longer) n63 (v4, v5, v6) = some Ro → Zd D Γ 0 0 [((aMo 0), .inr (11, [.ref (aMo 1), .int (zI mo_taped), .ref (aMo 3), .ref (aMo 4), .ref (aMo 5), .ref (aMo 6), .ref (aMo 7), .ref (aMo 8), .ref (aMo 9), .ref (aMo 10), .ref (aMo 11), .ref (aMo 12), .ref (aMo 13), .ref (aMo 14), .ref (aMo 15), .ref (aMo 16), .int (zI mo_size), .int (zI mo_runs), .ref (aMo 19), .ref (aMo 20), .ref (aMo 21), .int (zI mo_found), .int (zI mo_counted), .int (zI mo_isParted), .ref (aMo 25), .ref (aMo 26), .ref (aMo 27), .ref (aMo 28), .ref (aMo 29), .int (zI mo_maybes), .int (zI mo_days), .int (zI mo_over2), .int (zI mo_longer), .ref (aMo 34)])), ((aMo 3), .inl (ca 0, 11, .inl (zA mo_rules))), ((aMo 14), .inl (ca 0, 20161, .inl (zA mo_driven))), ((aMo 26), .inl (ca 0, 62, .inl (zA mo_dayFrom))), ((aMo 27), .inl (ca 0, 62, .inl (zA mo_dayTo))), ((aMo 29), .inl (ca 3, 62, .inl (zA mo_isLonger)))] 63 [(0, .ref (aMo 0)), (1, .int (zI v1)), (3, .int (zI v3)), (4, .int (zI v4)), (5, .int (zI v5)), (6, .int (zI v6))] [] := by
            intro v3 mo_isLonger mo_longer
            intro n63
            induction n63 with
            | zero =>
              intro v4 v5 v6 hf
              exact zno hf
            | succ n63 ih63 =>
              have H132 : ∀ (v4 : Int) (v5 : Int) (v6 : Int), fX11_extendsDays_132 (zlp (fX11_extendsDays_63 (zlp (fX11_extendsDays_39 (zlp (fX11_extendsDays_30 mo_rules mo_driven mo_dayFrom mo_dayTo mo_days) n30) v1 mo_rules mo_driven mo_dayFrom mo_dayTo mo_days) n39) v1 v3 mo_rules mo_driven mo_dayFrom mo_dayTo mo_isLonger mo_days mo_longer) n63) v4 v5 v6 = some Ro → Zd D Γ 0 0 [((aMo 0), .inr (11, [.ref (aMo 1), .int (zI mo_taped), .ref (aMo 3), .ref (aMo 4), .ref (aMo 5), .ref (aMo 6), .ref (aMo 7), .ref (aMo 8), .ref (aMo 9), .ref (aMo 10), .ref (aMo 11), .ref (aMo 12), .ref (aMo 13), .ref (aMo 14), .ref (aMo 15), .ref (aMo 16), .int (zI mo_size), .int (zI mo_runs), .ref (aMo 19), .ref (aMo 20), .ref (aMo 21), .int (zI mo_found), .int (zI mo_counted), .int (zI mo_isParted), .ref (aMo 25), .ref (aMo 26), .ref (aMo 27), .ref (aMo 28), .ref (aMo 29), .int (zI mo_maybes), .int (zI mo_days), .int (zI mo_over2), .int (zI mo_longer), .ref (aMo 34)])), ((aMo 3), .inl (ca 0, 11, .inl (zA mo_rules))), ((aMo 14), .inl (ca 0, 20161, .inl (zA mo_driven))), ((aMo 26), .inl (ca 0, 62, .inl (zA mo_dayFrom))), ((aMo 27), .inl (ca 0, 62, .inl (zA mo_dayTo))), ((aMo 29), .inl (ca 3, 62, .inl (zA mo_isLonger)))] 132 [(0, .ref (aMo 0)), (1, .int (zI v1)), (3, .int (zI v3)), (4, .int (zI v4)), (5, .int (zI v5)), (6, .int (zI v6))] [] := by
                intro v4 v5 v6 hf
                unfold fX11_extendsDays_132 at hf
                refine g_iinc (pc := 132) C 5 (lv' := [(6, .int (zI (v6 + 1))), (0, .ref (aMo 0)), (1, .int (zI v1)), (3, .int (zI v3)), (4, .int (zI v4)), (5, .int (zI v5))]) dX11_extendsDays_132 rfl (Nat.le_of_ble_eq_true rfl) rfl ?_
                refine g_goto (pc := 135) C (tgt := 63) dX11_extendsDays_135 (by decide) ?_
                refine g_sub [0, 1, 2, 3, 4, 5] [1, 2, 3, 4, 5, 0] (by decide) rfl rfl rfl ?_
                exact ih63 _ _ _ hf
              intro v4 v5 v6 hf
              rw [zlp_s] at hf
              unfold fX11_extendsDays_63 at hf
              dsimp only at hf
              refine g_iload (pc := 63) C 5 dX11_extendsDays_63 rfl ?_
              refine g_aload_n (pc := 65) C 0 dX11_extendsDays_65 rfl rfl ?_
              refine g_get (pc := 66) C zf_X11_154 0 rfl rfl dX11_extendsDays_66 ?_
              refine g_icmp_ge (pc := 69) C (tgt := 138) dX11_extendsDays_69 (by decide) hf (fun hf => ?_) (fun hf => ?_)
              · refine g_iload (pc := 138) C 3 dX11_extendsDays_138 rfl ?_
                refine g_iconst (pc := 140) C dX11_extendsDays_140 ?_
                refine g_icmp_eqr (pc := 141) C (tgt := 148) dX11_extendsDays_141 (by decide) (by decide) hf (fun hf => ?_) (fun hf => ?_)
                · refine g_iconst (pc := 148) C dX11_extendsDays_148 ?_
                  refine g_sub [0, 1, 2, 3, 4, 5] [0, 1, 2, 3] (by decide) rfl rfl rfl ?_
                  exact H149 _ _ _ _ _ hf
                · refine g_iconst (pc := 144) C dX11_extendsDays_144 ?_
                  refine g_goto (pc := 145) C (tgt := 149) dX11_extendsDays_145 (by decide) ?_
                  refine g_sub [0, 1, 2, 3, 4, 5] [0, 1, 2, 3] (by decide) rfl rfl rfl ?_
                  exact H149 _ _ _ _ _ hf
              · refine g_aload_n (pc := 72) C 0 dX11_extendsDays_72 rfl rfl ?_
                refine g_iload (pc := 73) C 5 dX11_extendsDays_73 rfl ?_
                refine g_iconst (pc := 75) C dX11_extendsDays_75 ?_
                obtain ⟨r_76, hc_76, hf⟩ := Option.bind_eq_some_iff.mp hf
                refine g_callV (pc := 76) C hl0 (wr := [((aMo 29), .inl (ca 3, 62, .inl (zA mo_isLonger)))]) (k' := 0) (n' := 0) (ws' := fun _ => [((aMo 29), .inl (ca 3, 62, .inl (zA mo_isLonger))), ((aMo 0), .inr (11, [.ref (aMo 1), .int (zI mo_taped), .ref (aMo 3), .ref (aMo 4), .ref (aMo 5), .ref (aMo 6), .ref (aMo 7), .ref (aMo 8), .ref (aMo 9), .ref (aMo 10), .ref (aMo 11), .ref (aMo 12), .ref (aMo 13), .ref (aMo 14), .ref (aMo 15), .ref (aMo 16), .int (zI mo_size), .int (zI mo_runs), .ref (aMo 19), .ref (aMo 20), .ref (aMo 21), .int (zI mo_found), .int (zI mo_counted), .int (zI mo_isParted), .ref (aMo 25), .ref (aMo 26), .ref (aMo 27), .ref (aMo 28), .ref (aMo 29), .int (zI mo_maybes), .int (zI mo_days), .int (zI mo_over2), .int (zI mo_longer), .ref (aMo 34)])), ((aMo 3), .inl (ca 0, 11, .inl (zA mo_rules))), ((aMo 14), .inl (ca 0, 20161, .inl (zA mo_driven))), ((aMo 26), .inl (ca 0, 62, .inl (zA mo_dayFrom))), ((aMo 27), .inl (ca 0, 62, .inl (zA mo_dayTo)))]) (st' := [.int (zI r_76)]) (kX11_overOf l D ca aMo mo_taped mo_rules mo_driven mo_size mo_runs mo_found mo_counted mo_isParted mo_dayFrom mo_dayTo mo_maybes mo_days mo_over2 mo_longer v6 0 r_76 hc_76) wml_RX11_167 wim_X11_overOf wse_X11_overOf win_RX11 wco_X11_overOf (nA := 2) rfl (by decide +kernel)  ⟨(Nat.le_of_ble_eq_true rfl), (Nat.le_of_ble_eq_true rfl)⟩ (Nat.le_refl _) (Nat.le_refl _) rfl (Nat.le_of_ble_eq_true rfl) dX11_extendsDays_76 0 11 rfl rfl rfl [0, 1, 2, 3, 4] [5] rfl rfl rfl (by decide) (by decide) (by decide) rfl rfl (fun _ => rfl) rfl (fun _ => ?_)
                refine g_aload_n (pc := 79) C 0 dX11_extendsDays_79 rfl rfl ?_
                refine g_iload (pc := 80) C 5 dX11_extendsDays_80 rfl ?_
                refine g_iconst (pc := 82) C dX11_extendsDays_82 ?_
                obtain ⟨r_83, hc_83, hf⟩ := Option.bind_eq_some_iff.mp hf
                refine g_callV (pc := 83) C hl0 (wr := [((aMo 29), .inl (ca 3, 62, .inl (zA mo_isLonger)))]) (k' := 0) (n' := 0) (ws' := fun _ => [((aMo 29), .inl (ca 3, 62, .inl (zA mo_isLonger))), ((aMo 0), .inr (11, [.ref (aMo 1), .int (zI mo_taped), .ref (aMo 3), .ref (aMo 4), .ref (aMo 5), .ref (aMo 6), .ref (aMo 7), .ref (aMo 8), .ref (aMo 9), .ref (aMo 10), .ref (aMo 11), .ref (aMo 12), .ref (aMo 13), .ref (aMo 14), .ref (aMo 15), .ref (aMo 16), .int (zI mo_size), .int (zI mo_runs), .ref (aMo 19), .ref (aMo 20), .ref (aMo 21), .int (zI mo_found), .int (zI mo_counted), .int (zI mo_isParted), .ref (aMo 25), .ref (aMo 26), .ref (aMo 27), .ref (aMo 28), .ref (aMo 29), .int (zI mo_maybes), .int (zI mo_days), .int (zI mo_over2), .int (zI mo_longer), .ref (aMo 34)])), ((aMo 3), .inl (ca 0, 11, .inl (zA mo_rules))), ((aMo 14), .inl (ca 0, 20161, .inl (zA mo_driven))), ((aMo 26), .inl (ca 0, 62, .inl (zA mo_dayFrom))), ((aMo 27), .inl (ca 0, 62, .inl (zA mo_dayTo)))]) (st' := [.int (zI r_83), .int (zI r_76)]) (kX11_overOf l D ca aMo mo_taped mo_rules mo_driven mo_size mo_runs mo_found mo_counted mo_isParted mo_dayFrom mo_dayTo mo_maybes mo_days mo_over2 mo_longer v6 1 r_83 hc_83) wml_RX11_167 wim_X11_overOf wse_X11_overOf win_RX11 wco_X11_overOf (nA := 2) rfl (by decide +kernel)  ⟨(Nat.le_of_ble_eq_true rfl), (Nat.le_of_ble_eq_true rfl)⟩ (Nat.le_refl _) (Nat.le_refl _) rfl (Nat.le_of_ble_eq_true rfl) dX11_extendsDays_83 1 11 rfl rfl rfl [1, 2, 3, 4, 5] [0] rfl rfl rfl (by decide) (by decide) (by decide) rfl rfl (fun _ => rfl) rfl (fun _ => ?_)
                refine g_isub (pc := 86) C dX11_extendsDays_86 ?_
                refine g_istore (pc := 87) C (lv' := [(7, .int (zI (r_76 - r_83))), (0, .ref (aMo 0)), (1, .int (zI v1)), (3, .int (zI v3)), (4, .int (zI v4)), (5, .int (zI v5)), (6, .int (zI v6))]) dX11_extendsDays_87 (Nat.le_of_ble_eq_true rfl) rfl ?_
                refine g_aload_n (pc := 89) C 1 dX11_extendsDays_89 rfl rfl ?_
                refine g_get (pc := 90) C zf_X11_77 1 rfl rfl dX11_extendsDays_90 ?_
                refine g_iload (pc := 93) C 6 dX11_extendsDays_93 rfl ?_
                refine g_zald (pc := 95) C (N := 62) 0 rfl rfl (Nat.le_of_ble_eq_true rfl) dX11_extendsDays_95 hf (fun hf => ?_)
                refine g_if_ne (pc := 96) C (tgt := 132) dX11_extendsDays_96 (by decide) hf (fun hf => ?_) (fun hf => ?_)
                · refine g_sub [1, 2, 3, 4, 5, 0] [1, 2, 3, 4, 5, 6] (by decide) rfl rfl rfl ?_
                  exact H132 _ _ _ hf
                · refine g_aload_n (pc := 99) C 1 dX11_extendsDays_99 rfl rfl ?_
                  refine g_get (pc := 100) C zf_X11_68 1 rfl rfl dX11_extendsDays_100 ?_
                  refine g_iload (pc := 103) C 6 dX11_extendsDays_103 rfl ?_
                  refine g_iald (pc := 105) C (N := 62) 4 rfl rfl (Nat.le_of_ble_eq_true rfl) dX11_extendsDays_105 hf (fun hf => ?_)
                  refine g_sipush (pc := 106) C dX11_extendsDays_106 (by decide) ?_
                  refine g_idiv (pc := 109) C dX11_extendsDays_109 (by decide) hf (fun hf => ?_)
                  refine g_iload_n (pc := 110) C 2 dX11_extendsDays_110 rfl rfl ?_
                  refine g_icmp_ne (pc := 111) C (tgt := 132) dX11_extendsDays_111 (by decide) hf (fun hf => ?_) (fun hf => ?_)
                  · refine g_sub [1, 2, 3, 4, 5, 0] [1, 2, 3, 4, 5, 6] (by decide) rfl rfl rfl ?_
                    exact H132 _ _ _ hf
                  · refine g_iload (pc := 114) C 0 dX11_extendsDays_114 rfl ?_
                    refine g_iload (pc := 116) C 5 dX11_extendsDays_116 rfl ?_
                    refine g_icmp_gt (pc := 118) C (tgt := 124) dX11_extendsDays_118 (by decide) hf (fun hf => ?_) (fun hf => ?_)
                    · refine g_iload (pc := 124) C 6 dX11_extendsDays_124 rfl ?_
                      refine g_istore (pc := 126) C (lv' := [(4, .int (zI v6)), (7, .int (zI (r_76 - r_83))), (0, .ref (aMo 0)), (1, .int (zI v1)), (3, .int (zI v3)), (5, .int (zI v5)), (6, .int (zI v6))]) dX11_extendsDays_126 (Nat.le_of_ble_eq_true rfl) rfl ?_
                      refine g_iload (pc := 128) C 1 dX11_extendsDays_128 rfl ?_
                      refine g_istore (pc := 130) C (lv' := [(5, .int (zI (r_76 - r_83))), (4, .int (zI v6)), (7, .int (zI (r_76 - r_83))), (0, .ref (aMo 0)), (1, .int (zI v1)), (3, .int (zI v3)), (6, .int (zI v6))]) dX11_extendsDays_130 (Nat.le_of_ble_eq_true rfl) rfl ?_
                      refine g_sub [1, 2, 3, 4, 5, 0] [3, 4, 5, 1, 0, 6] (by decide) rfl rfl rfl ?_
                      exact H132 _ _ _ hf
                    · refine g_goto (pc := 121) C (tgt := 132) dX11_extendsDays_121 (by decide) ?_
                      refine g_sub [1, 2, 3, 4, 5, 0] [1, 2, 3, 4, 5, 6] (by decide) rfl rfl rfl ?_
                      exact H132 _ _ _ hf
          intro v2 v3 mo_isLonger mo_longer hf
          rw [zlp_s] at hf
          unfold fX11_extendsDays_39 at hf
          dsimp only at hf
          refine g_iload_n (pc := 39) C 3 dX11_extendsDays_39 rfl rfl ?_
          refine g_aload_n (pc := 40) C 0 dX11_extendsDays_40 rfl rfl ?_
          refine g_get (pc := 41) C zf_X11_13 0 rfl rfl dX11_extendsDays_41 ?_
          refine g_bipush (pc := 44) C dX11_extendsDays_44 (by decide) ?_
          refine g_ialdK (pc := 46) C 6 1 rfl rfl (Nat.le_of_ble_eq_true rfl) (Nat.le_of_ble_eq_true rfl) dX11_extendsDays_46 ?_
          refine g_icmp_ge (pc := 47) C (tgt := 181) dX11_extendsDays_47 (by decide) hf (fun hf => ?_) (fun hf => ?_)
          · refine g_sub [0, 1, 2, 3, 4, 5] [0, 1] (by decide) rfl rfl rfl ?_
            exact H181 _ _ _ hf
          · refine g_iload_n (pc := 50) C 2 dX11_extendsDays_50 rfl rfl ?_
            refine g_if_eq (pc := 51) C (tgt := 181) dX11_extendsDays_51 (by decide) hf (fun hf => ?_) (fun hf => ?_)
            · refine g_sub [0, 1, 2, 3, 4, 5] [0, 1] (by decide) rfl rfl rfl ?_
              exact H181 _ _ _ hf
            · refine g_iconst (pc := 54) C dX11_extendsDays_54 ?_
              refine g_istore (pc := 55) C (lv' := [(4, .int (zI (-1))), (0, .ref (aMo 0)), (1, .int (zI v1)), (2, .int (zI v2)), (3, .int (zI v3))]) dX11_extendsDays_55 (Nat.le_of_ble_eq_true rfl) rfl ?_
              refine g_iconst (pc := 57) C dX11_extendsDays_57 ?_
              refine g_istore (pc := 58) C (lv' := [(5, .int (zI 0)), (4, .int (zI (-1))), (0, .ref (aMo 0)), (1, .int (zI v1)), (2, .int (zI v2)), (3, .int (zI v3))]) dX11_extendsDays_58 (Nat.le_of_ble_eq_true rfl) rfl ?_
              refine g_iconst (pc := 60) C dX11_extendsDays_60 ?_
              refine g_istore (pc := 61) C (lv' := [(6, .int (zI 0)), (5, .int (zI 0)), (4, .int (zI (-1))), (0, .ref (aMo 0)), (1, .int (zI v1)), (2, .int (zI v2)), (3, .int (zI v3))]) dX11_extendsDays_61 (Nat.le_of_ble_eq_true rfl) rfl ?_
              refine g_sub [0, 1, 2, 3, 4, 5] [3, 4, 6, 2, 1, 0] (by decide) rfl rfl rfl ?_
              exact H63 _ _ _ _ _ _ _ hf
      intro v1 mo_isLonger mo_longer hf
      rw [zlp_s] at hf
      unfold fX11_extendsDays_30 at hf
      dsimp only at hf
      refine g_iload_n (pc := 30) C 1 dX11_extendsDays_30 rfl rfl ?_
      refine g_iconst (pc := 31) C dX11_extendsDays_31 ?_
      refine g_icmp_ger (pc := 32) C (tgt := 187) dX11_extendsDays_32 (by decide) (by decide) hf (fun hf => ?_) (fun hf => ?_)
      · exact g_vret (pc := 187) C hf E rfl (fun _ => 0) [0, 1, 2, 3, 4, 5] (by decide) rfl rfl (Nat.le_refl _) (Nat.le_refl _) dX11_extendsDays_187
      · refine g_iconst (pc := 35) C dX11_extendsDays_35 ?_
        refine g_istore_n (pc := 36) C (lv' := [(2, .int (zI 1)), (0, .ref (aMo 0)), (1, .int (zI v1))]) dX11_extendsDays_36 rfl (Nat.le_of_ble_eq_true rfl) rfl ?_
        refine g_iconst (pc := 37) C dX11_extendsDays_37 ?_
        refine g_istore_n (pc := 38) C (lv' := [(3, .int (zI 0)), (2, .int (zI 1)), (0, .ref (aMo 0)), (1, .int (zI v1))]) dX11_extendsDays_38 rfl (Nat.le_of_ble_eq_true rfl) rfl ?_
        refine g_sub [0, 1, 2, 3, 4, 5] [2, 3, 1, 0] (by decide) rfl rfl rfl ?_
        exact H39 _ _ _ _ _ _ hf
  have H7 : ∀ (mo_longer : Int) (n7 : Nat) (v1 : Int) (mo_isLonger : Nat → Int), zlp (fX11_extendsDays_7 mo_rules mo_driven mo_dayFrom mo_dayTo mo_days mo_longer) n7 (v1, mo_isLonger) = some Ro → Zd D Γ 0 0 [((aMo 0), .inr (11, [.ref (aMo 1), .int (zI mo_taped), .ref (aMo 3), .ref (aMo 4), .ref (aMo 5), .ref (aMo 6), .ref (aMo 7), .ref (aMo 8), .ref (aMo 9), .ref (aMo 10), .ref (aMo 11), .ref (aMo 12), .ref (aMo 13), .ref (aMo 14), .ref (aMo 15), .ref (aMo 16), .int (zI mo_size), .int (zI mo_runs), .ref (aMo 19), .ref (aMo 20), .ref (aMo 21), .int (zI mo_found), .int (zI mo_counted), .int (zI mo_isParted), .ref (aMo 25), .ref (aMo 26), .ref (aMo 27), .ref (aMo 28), .ref (aMo 29), .int (zI mo_maybes), .int (zI mo_days), .int (zI mo_over2), .int (zI mo_longer), .ref (aMo 34)])), ((aMo 3), .inl (ca 0, 11, .inl (zA mo_rules))), ((aMo 14), .inl (ca 0, 20161, .inl (zA mo_driven))), ((aMo 26), .inl (ca 0, 62, .inl (zA mo_dayFrom))), ((aMo 27), .inl (ca 0, 62, .inl (zA mo_dayTo))), ((aMo 29), .inl (ca 3, 62, .inl (zA mo_isLonger)))] 7 [(0, .ref (aMo 0)), (1, .int (zI v1))] [] := by
    intro mo_longer
    intro n7
    induction n7 with
    | zero =>
      intro v1 mo_isLonger hf
      exact zno hf
    | succ n7 ih7 =>
      intro v1 mo_isLonger hf
      rw [zlp_s] at hf
      unfold fX11_extendsDays_7 at hf
      dsimp only at hf
      refine g_iload_n (pc := 7) C 1 dX11_extendsDays_7 rfl rfl ?_
      refine g_aload_n (pc := 8) C 0 dX11_extendsDays_8 rfl rfl ?_
      refine g_get (pc := 9) C zf_X11_154 0 rfl rfl dX11_extendsDays_9 ?_
      refine g_icmp_ge (pc := 12) C (tgt := 28) dX11_extendsDays_12 (by decide) hf (fun hf => ?_) (fun hf => ?_)
      · refine g_iconst (pc := 28) C dX11_extendsDays_28 ?_
        refine g_istore_n (pc := 29) C (lv' := [(1, .int (zI 0)), (0, .ref (aMo 0))]) dX11_extendsDays_29 rfl (Nat.le_of_ble_eq_true rfl) rfl ?_
        refine g_sub [0, 1, 2, 3, 4, 5] [1, 0] (by decide) rfl rfl rfl ?_
        exact H30 _ _ _ _ hf
      · refine g_aload_n (pc := 15) C 0 dX11_extendsDays_15 rfl rfl ?_
        refine g_get (pc := 16) C zf_X11_77 0 rfl rfl dX11_extendsDays_16 ?_
        refine g_iload_n (pc := 19) C 1 dX11_extendsDays_19 rfl rfl ?_
        refine g_iconst (pc := 20) C dX11_extendsDays_20 ?_
        refine g_zast (pc := 21) C (N := 62) (ws' := [((aMo 0), .inr (11, [.ref (aMo 1), .int (zI mo_taped), .ref (aMo 3), .ref (aMo 4), .ref (aMo 5), .ref (aMo 6), .ref (aMo 7), .ref (aMo 8), .ref (aMo 9), .ref (aMo 10), .ref (aMo 11), .ref (aMo 12), .ref (aMo 13), .ref (aMo 14), .ref (aMo 15), .ref (aMo 16), .int (zI mo_size), .int (zI mo_runs), .ref (aMo 19), .ref (aMo 20), .ref (aMo 21), .int (zI mo_found), .int (zI mo_counted), .int (zI mo_isParted), .ref (aMo 25), .ref (aMo 26), .ref (aMo 27), .ref (aMo 28), .ref (aMo 29), .int (zI mo_maybes), .int (zI mo_days), .int (zI mo_over2), .int (zI mo_longer), .ref (aMo 34)])), ((aMo 3), .inl (ca 0, 11, .inl (zA mo_rules))), ((aMo 14), .inl (ca 0, 20161, .inl (zA mo_driven))), ((aMo 26), .inl (ca 0, 62, .inl (zA mo_dayFrom))), ((aMo 27), .inl (ca 0, 62, .inl (zA mo_dayTo))), ((aMo 29), .inl (ca 3, 62, .inl (zA (zU mo_isLonger v1.toNat 0))))]) 5 rfl rfl (Nat.le_of_ble_eq_true rfl) (by decide) rfl dX11_extendsDays_21 hf (fun hf => ?_)
        refine g_iinc (pc := 22) C 1 (lv' := [(1, .int (zI (v1 + 1))), (0, .ref (aMo 0))]) dX11_extendsDays_22 rfl (Nat.le_of_ble_eq_true rfl) rfl ?_
        refine g_goto (pc := 25) C (tgt := 7) dX11_extendsDays_25 (by decide) ?_
        refine g_sub [0, 1, 2, 3, 4, 5] [1, 0] (by decide) rfl rfl rfl ?_
        exact ih7 _ _ hf
  unfold fX11_extendsDays at hf
  refine g_aload_n (pc := 0) C 0 dX11_extendsDays_0 rfl rfl ?_
  refine g_iconst (pc := 1) C dX11_extendsDays_1 ?_
  refine g_put (pc := 2) C zf_X11_164 tyX11 tyX11_ok nmX11 (v := .int (zI 0)) (ws' := [((aMo 0), .inr (11, [.ref (aMo 1), .int (zI mo_taped), .ref (aMo 3), .ref (aMo 4), .ref (aMo 5), .ref (aMo 6), .ref (aMo 7), .ref (aMo 8), .ref (aMo 9), .ref (aMo 10), .ref (aMo 11), .ref (aMo 12), .ref (aMo 13), .ref (aMo 14), .ref (aMo 15), .ref (aMo 16), .int (zI mo_size), .int (zI mo_runs), .ref (aMo 19), .ref (aMo 20), .ref (aMo 21), .int (zI mo_found), .int (zI mo_counted), .int (zI mo_isParted), .ref (aMo 25), .ref (aMo 26), .ref (aMo 27), .ref (aMo 28), .ref (aMo 29), .int (zI mo_maybes), .int (zI mo_days), .int (zI mo_over2), .int (zI 0), .ref (aMo 34)])), ((aMo 3), .inl (ca 0, 11, .inl (zA mo_rules))), ((aMo 14), .inl (ca 0, 20161, .inl (zA mo_driven))), ((aMo 26), .inl (ca 0, 62, .inl (zA mo_dayFrom))), ((aMo 27), .inl (ca 0, 62, .inl (zA mo_dayTo))), ((aMo 29), .inl (ca 3, 62, .inl (zA mo_isLonger)))]) 0 rfl rfl rfl rfl rfl (Nat.le_of_ble_eq_true rfl) rfl rfl dX11_extendsDays_2 ?_
  refine g_iconst (pc := 5) C dX11_extendsDays_5 ?_
  refine g_istore_n (pc := 6) C (lv' := [(1, .int (zI 0)), (0, .ref (aMo 0))]) dX11_extendsDays_6 rfl (Nat.le_of_ble_eq_true rfl) rfl ?_
  refine g_sub [0, 1, 2, 3, 4, 5] [1, 0] (by decide) rfl rfl rfl ?_
  exact H7 _ _ _ _ hf
def oX11_lateOf (ca : Nat → ClassId) (aMo : Nat → Nat) (mo_taped : Int) (mo_rules : Nat → Int) (mo_runFrom : Nat → Int) (mo_runTo : Nat → Int) (mo_size : Int) (mo_runs : Int) (mo_found : Int) (mo_counted : Int) (mo_isParted : Int) (mo_dayFrom : Nat → Int) (mo_dayRun : Nat → Int) (mo_maybes : Int) (mo_days : Int) (mo_over2 : Int) (mo_longer : Int) (Ro : Int) : (Nat → Nat) → va_W := fun _ => [((aMo 0), .inr (11, [.ref (aMo 1), .int (zI mo_taped), .ref (aMo 3), .ref (aMo 4), .ref (aMo 5), .ref (aMo 6), .ref (aMo 7), .ref (aMo 8), .ref (aMo 9), .ref (aMo 10), .ref (aMo 11), .ref (aMo 12), .ref (aMo 13), .ref (aMo 14), .ref (aMo 15), .ref (aMo 16), .int (zI mo_size), .int (zI mo_runs), .ref (aMo 19), .ref (aMo 20), .ref (aMo 21), .int (zI mo_found), .int (zI mo_counted), .int (zI mo_isParted), .ref (aMo 25), .ref (aMo 26), .ref (aMo 27), .ref (aMo 28), .ref (aMo 29), .int (zI mo_maybes), .int (zI mo_days), .int (zI mo_over2), .int (zI mo_longer), .ref (aMo 34)])), ((aMo 3), .inl (ca 0, 11, .inl (zA mo_rules))), ((aMo 15), .inl (ca 0, 60, .inl (zA mo_runFrom))), ((aMo 16), .inl (ca 0, 60, .inl (zA mo_runTo))), ((aMo 26), .inl (ca 0, 62, .inl (zA mo_dayFrom))), ((aMo 28), .inl (ca 0, 62, .inl (zA mo_dayRun)))]
def oiX11_lateOf (Ro : Int) : Option Value := (some (.int (zI Ro)))
set_option maxRecDepth 100000 in
theorem kX11_lateOf (l : Launch) (D : va_G) (ca : Nat → ClassId) (aMo : Nat → Nat) (mo_taped : Int) (mo_rules : Nat → Int) (mo_runFrom : Nat → Int) (mo_runTo : Nat → Int) (mo_size : Int) (mo_runs : Int) (mo_found : Int) (mo_counted : Int) (mo_isParted : Int) (mo_dayFrom : Nat → Int) (mo_dayRun : Nat → Int) (mo_maybes : Int) (mo_days : Int) (mo_over2 : Int) (mo_longer : Int) (v1 : Int) (Ro : Int)
    (hf : fX11_lateOf v1 mo_rules mo_runFrom mo_runTo mo_size mo_dayFrom mo_dayRun = some Ro) : Zc l D ca yX11_lateOf cX11_lateOf 5 (some .int) { frames := 1, cells := 0, slots := 0, locals := 21 } [.ref (aMo 0), .int (zI v1)] [((aMo 0), .inr (11, [.ref (aMo 1), .int (zI mo_taped), .ref (aMo 3), .ref (aMo 4), .ref (aMo 5), .ref (aMo 6), .ref (aMo 7), .ref (aMo 8), .ref (aMo 9), .ref (aMo 10), .ref (aMo 11), .ref (aMo 12), .ref (aMo 13), .ref (aMo 14), .ref (aMo 15), .ref (aMo 16), .int (zI mo_size), .int (zI mo_runs), .ref (aMo 19), .ref (aMo 20), .ref (aMo 21), .int (zI mo_found), .int (zI mo_counted), .int (zI mo_isParted), .ref (aMo 25), .ref (aMo 26), .ref (aMo 27), .ref (aMo 28), .ref (aMo 29), .int (zI mo_maybes), .int (zI mo_days), .int (zI mo_over2), .int (zI mo_longer), .ref (aMo 34)])), ((aMo 3), .inl (ca 0, 11, .inl (zA mo_rules))), ((aMo 15), .inl (ca 0, 60, .inl (zA mo_runFrom))), ((aMo 16), .inl (ca 0, 60, .inl (zA mo_runTo))), ((aMo 26), .inl (ca 0, 62, .inl (zA mo_dayFrom))), ((aMo 28), .inl (ca 0, 62, .inl (zA mo_dayRun)))] (oiX11_lateOf Ro) (oX11_lateOf ca aMo mo_taped mo_rules mo_runFrom mo_runTo mo_size mo_runs mo_found mo_counted mo_isParted mo_dayFrom mo_dayRun mo_maybes mo_days mo_over2 mo_longer Ro) := by
  refine ctr_of (lv := [(0, .ref (aMo 0)), (1, .int (zI v1))]) (by decide +kernel) (Nat.le_of_ble_eq_true rfl) rfl (fun Γ hl0 C E hnm => ?_)
  have H58 : ∀ (s0 : Int), fX11_lateOf_58 v1 s0 mo_dayFrom = some Ro → Zd D Γ 0 0 [((aMo 0), .inr (11, [.ref (aMo 1), .int (zI mo_taped), .ref (aMo 3), .ref (aMo 4), .ref (aMo 5), .ref (aMo 6), .ref (aMo 7), .ref (aMo 8), .ref (aMo 9), .ref (aMo 10), .ref (aMo 11), .ref (aMo 12), .ref (aMo 13), .ref (aMo 14), .ref (aMo 15), .ref (aMo 16), .int (zI mo_size), .int (zI mo_runs), .ref (aMo 19), .ref (aMo 20), .ref (aMo 21), .int (zI mo_found), .int (zI mo_counted), .int (zI mo_isParted), .ref (aMo 25), .ref (aMo 26), .ref (aMo 27), .ref (aMo 28), .ref (aMo 29), .int (zI mo_maybes), .int (zI mo_days), .int (zI mo_over2), .int (zI mo_longer), .ref (aMo 34)])), ((aMo 3), .inl (ca 0, 11, .inl (zA mo_rules))), ((aMo 15), .inl (ca 0, 60, .inl (zA mo_runFrom))), ((aMo 16), .inl (ca 0, 60, .inl (zA mo_runTo))), ((aMo 26), .inl (ca 0, 62, .inl (zA mo_dayFrom))), ((aMo 28), .inl (ca 0, 62, .inl (zA mo_dayRun)))] 58 [(0, .ref (aMo 0)), (1, .int (zI v1))] [.int (zI s0)] := by
    intro s0 hf
    unfold fX11_lateOf_58 at hf
    refine g_istore_n (pc := 58) C (lv' := [(3, .int (zI s0)), (0, .ref (aMo 0)), (1, .int (zI v1))]) dX11_lateOf_58 rfl (Nat.le_of_ble_eq_true rfl) rfl ?_
    refine g_iload_n (pc := 59) C 0 dX11_lateOf_59 rfl rfl ?_
    refine g_aload_n (pc := 60) C 1 dX11_lateOf_60 rfl rfl ?_
    refine g_get (pc := 61) C zf_X11_68 0 rfl rfl dX11_lateOf_61 ?_
    refine g_iload_n (pc := 64) C 2 dX11_lateOf_64 rfl rfl ?_
    refine g_iald (pc := 65) C (N := 62) 4 rfl rfl (Nat.le_of_ble_eq_true rfl) dX11_lateOf_65 hf (fun hf => ?_)
    refine g_isub (pc := 66) C dX11_lateOf_66 ?_
    refine g_sipush (pc := 67) C dX11_lateOf_67 (by decide) ?_
    refine g_isub (pc := 70) C dX11_lateOf_70 ?_
    refine g_istore (pc := 71) C (lv' := [(4, .int (zI ((s0 - (mo_dayFrom v1.toNat)) - 1440))), (3, .int (zI s0)), (0, .ref (aMo 0)), (1, .int (zI v1))]) dX11_lateOf_71 (Nat.le_of_ble_eq_true rfl) rfl ?_
    refine g_iload (pc := 73) C 0 dX11_lateOf_73 rfl ?_
    refine g_if_le (pc := 75) C (tgt := 83) dX11_lateOf_75 (by decide) hf (fun hf => ?_) (fun hf => ?_)
    · refine g_iconst (pc := 83) C dX11_lateOf_83 ?_
      exact g_iret (pc := 84) C hf E rfl (fun _ => 0) [0, 1, 2, 3, 4, 5] (by decide) rfl rfl (Nat.le_refl _) (Nat.le_refl _) dX11_lateOf_84
    · refine g_iload (pc := 78) C 0 dX11_lateOf_78 rfl ?_
      refine g_goto (pc := 80) C (tgt := 84) dX11_lateOf_80 (by decide) ?_
      exact g_iret (pc := 84) C hf E rfl (fun _ => 0) [0, 1, 2, 3, 4, 5] (by decide) rfl rfl (Nat.le_refl _) (Nat.le_refl _) dX11_lateOf_84
  have H57 : ∀ (s0 : Int) (s1 : Int), fX11_lateOf_57 v1 s0 s1 mo_dayFrom = some Ro → Zd D Γ 0 0 [((aMo 0), .inr (11, [.ref (aMo 1), .int (zI mo_taped), .ref (aMo 3), .ref (aMo 4), .ref (aMo 5), .ref (aMo 6), .ref (aMo 7), .ref (aMo 8), .ref (aMo 9), .ref (aMo 10), .ref (aMo 11), .ref (aMo 12), .ref (aMo 13), .ref (aMo 14), .ref (aMo 15), .ref (aMo 16), .int (zI mo_size), .int (zI mo_runs), .ref (aMo 19), .ref (aMo 20), .ref (aMo 21), .int (zI mo_found), .int (zI mo_counted), .int (zI mo_isParted), .ref (aMo 25), .ref (aMo 26), .ref (aMo 27), .ref (aMo 28), .ref (aMo 29), .int (zI mo_maybes), .int (zI mo_days), .int (zI mo_over2), .int (zI mo_longer), .ref (aMo 34)])), ((aMo 3), .inl (ca 0, 11, .inl (zA mo_rules))), ((aMo 15), .inl (ca 0, 60, .inl (zA mo_runFrom))), ((aMo 16), .inl (ca 0, 60, .inl (zA mo_runTo))), ((aMo 26), .inl (ca 0, 62, .inl (zA mo_dayFrom))), ((aMo 28), .inl (ca 0, 62, .inl (zA mo_dayRun)))] 57 [(0, .ref (aMo 0)), (1, .int (zI v1))] [.int (zI s1), .int (zI s0)] := by
    intro s0 s1 hf
    unfold fX11_lateOf_57 at hf
    refine g_iadd (pc := 57) C dX11_lateOf_57 ?_
    exact H58 _ hf
  unfold fX11_lateOf at hf
  refine g_aload_n (pc := 0) C 0 dX11_lateOf_0 rfl rfl ?_
  refine g_get (pc := 1) C zf_X11_74 0 rfl rfl dX11_lateOf_1 ?_
  refine g_iload_n (pc := 4) C 1 dX11_lateOf_4 rfl rfl ?_
  refine g_iald (pc := 5) C (N := 62) 5 rfl rfl (Nat.le_of_ble_eq_true rfl) dX11_lateOf_5 hf (fun hf => ?_)
  refine g_istore_n (pc := 6) C (lv' := [(2, .int (zI (mo_dayRun v1.toNat))), (0, .ref (aMo 0)), (1, .int (zI v1))]) dX11_lateOf_6 rfl (Nat.le_of_ble_eq_true rfl) rfl ?_
  refine g_iload_n (pc := 7) C 0 dX11_lateOf_7 rfl rfl ?_
  refine g_iconst (pc := 8) C dX11_lateOf_8 ?_
  refine g_icmp_ner (pc := 9) C (tgt := 19) dX11_lateOf_9 (by decide) (by decide) hf (fun hf => ?_) (fun hf => ?_)
  · refine g_aload_n (pc := 19) C 1 dX11_lateOf_19 rfl rfl ?_
    refine g_get (pc := 20) C zf_X11_50 0 rfl rfl dX11_lateOf_20 ?_
    refine g_iload_n (pc := 23) C 0 dX11_lateOf_23 rfl rfl ?_
    refine g_iald (pc := 24) C (N := 60) 2 rfl rfl (Nat.le_of_ble_eq_true rfl) dX11_lateOf_24 hf (fun hf => ?_)
    refine g_aload_n (pc := 25) C 1 dX11_lateOf_25 rfl rfl ?_
    refine g_iload_n (pc := 26) C 0 dX11_lateOf_26 rfl rfl ?_
    obtain ⟨r_27, hc_27, hf⟩ := Option.bind_eq_some_iff.mp hf
    refine g_callV (pc := 27) C hl0 (wr := [((aMo 3), .inl (ca 0, 11, .inl (zA mo_rules))), ((aMo 26), .inl (ca 0, 62, .inl (zA mo_dayFrom))), ((aMo 28), .inl (ca 0, 62, .inl (zA mo_dayRun)))]) (k' := 0) (n' := 0) (ws' := fun _ => [((aMo 3), .inl (ca 0, 11, .inl (zA mo_rules))), ((aMo 26), .inl (ca 0, 62, .inl (zA mo_dayFrom))), ((aMo 28), .inl (ca 0, 62, .inl (zA mo_dayRun))), ((aMo 0), .inr (11, [.ref (aMo 1), .int (zI mo_taped), .ref (aMo 3), .ref (aMo 4), .ref (aMo 5), .ref (aMo 6), .ref (aMo 7), .ref (aMo 8), .ref (aMo 9), .ref (aMo 10), .ref (aMo 11), .ref (aMo 12), .ref (aMo 13), .ref (aMo 14), .ref (aMo 15), .ref (aMo 16), .int (zI mo_size), .int (zI mo_runs), .ref (aMo 19), .ref (aMo 20), .ref (aMo 21), .int (zI mo_found), .int (zI mo_counted), .int (zI mo_isParted), .ref (aMo 25), .ref (aMo 26), .ref (aMo 27), .ref (aMo 28), .ref (aMo 29), .int (zI mo_maybes), .int (zI mo_days), .int (zI mo_over2), .int (zI mo_longer), .ref (aMo 34)])), ((aMo 15), .inl (ca 0, 60, .inl (zA mo_runFrom))), ((aMo 16), .inl (ca 0, 60, .inl (zA mo_runTo)))]) (st' := [.int (zI r_27), .int (zI (mo_runFrom (mo_dayRun v1.toNat).toNat))]) (kX11_runLength l D ca aMo mo_taped mo_runFrom mo_runTo mo_size mo_runs mo_found mo_counted mo_isParted mo_maybes mo_days mo_over2 mo_longer (mo_dayRun v1.toNat) r_27 hc_27) wml_RX11_141 wim_X11_runLength wse_X11_runLength win_RX11 wco_X11_runLength (nA := 1) rfl (by decide +kernel)  ⟨(Nat.le_of_ble_eq_true rfl), (Nat.le_of_ble_eq_true rfl)⟩ (Nat.le_refl _) (Nat.le_refl _) rfl (Nat.le_of_ble_eq_true rfl) dX11_lateOf_27 0 11 rfl rfl rfl [0, 2, 3] [1, 4, 5] rfl rfl rfl (by decide) (by decide) (by decide) rfl rfl (fun _ => rfl) rfl (fun _ => ?_)
    refine g_aload_n (pc := 30) C 1 dX11_lateOf_30 rfl rfl ?_
    refine g_get (pc := 31) C zf_X11_13 3 rfl rfl dX11_lateOf_31 ?_
    refine g_bipush (pc := 34) C dX11_lateOf_34 (by decide) ?_
    refine g_ialdK (pc := 36) C 7 0 rfl rfl (Nat.le_of_ble_eq_true rfl) (Nat.le_of_ble_eq_true rfl) dX11_lateOf_36 ?_
    refine g_icmp_lt (pc := 37) C (tgt := 50) dX11_lateOf_37 (by decide) hf (fun hf => ?_) (fun hf => ?_)
    · refine g_aload_n (pc := 50) C 1 dX11_lateOf_50 rfl rfl ?_
      refine g_get (pc := 51) C zf_X11_13 3 rfl rfl dX11_lateOf_51 ?_
      refine g_bipush (pc := 54) C dX11_lateOf_54 (by decide) ?_
      refine g_ialdK (pc := 56) C 8 0 rfl rfl (Nat.le_of_ble_eq_true rfl) (Nat.le_of_ble_eq_true rfl) dX11_lateOf_56 ?_
      refine g_sub [3, 0, 4, 5, 1, 2] [1, 2] (by decide) rfl rfl rfl ?_
      exact H57 _ _ hf
    · refine g_aload_n (pc := 40) C 1 dX11_lateOf_40 rfl rfl ?_
      refine g_get (pc := 41) C zf_X11_13 3 rfl rfl dX11_lateOf_41 ?_
      refine g_bipush (pc := 44) C dX11_lateOf_44 (by decide) ?_
      refine g_ialdK (pc := 46) C 7 0 rfl rfl (Nat.le_of_ble_eq_true rfl) (Nat.le_of_ble_eq_true rfl) dX11_lateOf_46 ?_
      refine g_goto (pc := 47) C (tgt := 57) dX11_lateOf_47 (by decide) ?_
      refine g_sub [3, 0, 4, 5, 1, 2] [1, 2] (by decide) rfl rfl rfl ?_
      exact H57 _ _ hf
  · refine g_aload_n (pc := 12) C 1 dX11_lateOf_12 rfl rfl ?_
    refine g_get (pc := 13) C zf_X11_121 0 rfl rfl dX11_lateOf_13 ?_
    refine g_goto (pc := 16) C (tgt := 58) dX11_lateOf_16 (by decide) ?_
    refine g_sub [0, 1, 2, 3, 4, 5] [1, 2] (by decide) rfl rfl rfl ?_
    exact H58 _ hf
def oX11_reckons (ca : Nat → ClassId) (aMo : Nat → Nat) (mo_taped : Int) (mo_rules : Nat → Int) (mo_driven : Nat → Int) (mo_runFrom : Nat → Int) (mo_runTo : Nat → Int) (mo_size : Int) (mo_runs : Int) (mo_found : Int) (mo_counted : Int) (mo_isParted : Int) (mo_maybe : Nat → Int) (mo_maybes : Int) (Ro : (Nat → Int) × (Nat → Int) × (Nat → Int) × (Nat → Int) × Int × Int × Int) : (Nat → Nat) → va_W := fun _ => [((aMo 0), .inr (11, [.ref (aMo 1), .int (zI mo_taped), .ref (aMo 3), .ref (aMo 4), .ref (aMo 5), .ref (aMo 6), .ref (aMo 7), .ref (aMo 8), .ref (aMo 9), .ref (aMo 10), .ref (aMo 11), .ref (aMo 12), .ref (aMo 13), .ref (aMo 14), .ref (aMo 15), .ref (aMo 16), .int (zI mo_size), .int (zI mo_runs), .ref (aMo 19), .ref (aMo 20), .ref (aMo 21), .int (zI mo_found), .int (zI mo_counted), .int (zI mo_isParted), .ref (aMo 25), .ref (aMo 26), .ref (aMo 27), .ref (aMo 28), .ref (aMo 29), .int (zI mo_maybes), .int (zI (Ro.2.2.2.2.1)), .int (zI (Ro.2.2.2.2.2.1)), .int (zI (Ro.2.2.2.2.2.2)), .ref (aMo 34)])), ((aMo 3), .inl (ca 0, 11, .inl (zA mo_rules))), ((aMo 14), .inl (ca 0, 20161, .inl (zA mo_driven))), ((aMo 15), .inl (ca 0, 60, .inl (zA mo_runFrom))), ((aMo 16), .inl (ca 0, 60, .inl (zA mo_runTo))), ((aMo 25), .inl (ca 0, 12, .inl (zA mo_maybe))), ((aMo 26), .inl (ca 0, 62, .inl (zA (Ro.1)))), ((aMo 27), .inl (ca 0, 62, .inl (zA (Ro.2.1)))), ((aMo 28), .inl (ca 0, 62, .inl (zA (Ro.2.2.1)))), ((aMo 29), .inl (ca 3, 62, .inl (zA (Ro.2.2.2.1))))]
def oiX11_reckons (Ro : (Nat → Int) × (Nat → Int) × (Nat → Int) × (Nat → Int) × Int × Int × Int) : Option Value := none
set_option maxRecDepth 100000 in
theorem kX11_reckons (l : Launch) (D : va_G) (ca : Nat → ClassId) (aMo : Nat → Nat) (mo_taped : Int) (mo_rules : Nat → Int) (mo_driven : Nat → Int) (mo_runFrom : Nat → Int) (mo_runTo : Nat → Int) (mo_size : Int) (mo_runs : Int) (mo_found : Int) (mo_counted : Int) (mo_isParted : Int) (mo_maybe : Nat → Int) (mo_dayFrom : Nat → Int) (mo_dayTo : Nat → Int) (mo_dayRun : Nat → Int) (mo_isLonger : Nat → Int) (mo_maybes : Int) (mo_days : Int) (mo_over2 : Int) (mo_longer : Int) (v1 : Int) (Ro : (Nat → Int) × (Nat → Int) × (Nat → Int) × (Nat → Int) × Int × Int × Int)
    (hf : fX11_reckons v1 mo_rules mo_driven mo_runFrom mo_runTo mo_size mo_runs mo_maybe mo_dayFrom mo_dayTo mo_dayRun mo_isLonger mo_maybes mo_days mo_over2 mo_longer = some Ro) : Zc l D ca yX11_reckons cX11_reckons 3 none { frames := 3, cells := 0, slots := 0, locals := 72 } [.ref (aMo 0), .int (zI v1)] [((aMo 0), .inr (11, [.ref (aMo 1), .int (zI mo_taped), .ref (aMo 3), .ref (aMo 4), .ref (aMo 5), .ref (aMo 6), .ref (aMo 7), .ref (aMo 8), .ref (aMo 9), .ref (aMo 10), .ref (aMo 11), .ref (aMo 12), .ref (aMo 13), .ref (aMo 14), .ref (aMo 15), .ref (aMo 16), .int (zI mo_size), .int (zI mo_runs), .ref (aMo 19), .ref (aMo 20), .ref (aMo 21), .int (zI mo_found), .int (zI mo_counted), .int (zI mo_isParted), .ref (aMo 25), .ref (aMo 26), .ref (aMo 27), .ref (aMo 28), .ref (aMo 29), .int (zI mo_maybes), .int (zI mo_days), .int (zI mo_over2), .int (zI mo_longer), .ref (aMo 34)])), ((aMo 3), .inl (ca 0, 11, .inl (zA mo_rules))), ((aMo 14), .inl (ca 0, 20161, .inl (zA mo_driven))), ((aMo 15), .inl (ca 0, 60, .inl (zA mo_runFrom))), ((aMo 16), .inl (ca 0, 60, .inl (zA mo_runTo))), ((aMo 25), .inl (ca 0, 12, .inl (zA mo_maybe))), ((aMo 26), .inl (ca 0, 62, .inl (zA mo_dayFrom))), ((aMo 27), .inl (ca 0, 62, .inl (zA mo_dayTo))), ((aMo 28), .inl (ca 0, 62, .inl (zA mo_dayRun))), ((aMo 29), .inl (ca 3, 62, .inl (zA mo_isLonger)))] (oiX11_reckons Ro) (oX11_reckons ca aMo mo_taped mo_rules mo_driven mo_runFrom mo_runTo mo_size mo_runs mo_found mo_counted mo_isParted mo_maybe mo_maybes Ro) := by
  refine ctr_of (lv := [(0, .ref (aMo 0)), (1, .int (zI v1))]) (by decide +kernel) (Nat.le_of_ble_eq_true rfl) rfl (fun Γ hl0 C E hnm => ?_)
  have H16 : ∀ (mo_dayFrom : Nat → Int) (mo_dayTo : Nat → Int) (mo_dayRun : Nat → Int) (mo_isLonger : Nat → Int) (mo_days : Int) (mo_longer : Int) (n16 : Nat) (v2 : Int) (mo_over2 : Int), zlp (fX11_reckons_16 mo_rules mo_driven mo_runFrom mo_runTo mo_size mo_dayFrom mo_dayTo mo_dayRun mo_isLonger mo_days mo_longer) n16 (v2, mo_over2) = some Ro → Zd D Γ 0 0 [((aMo 0), .inr (11, [.ref (aMo 1), .int (zI mo_taped), .ref (aMo 3), .ref (aMo 4), .ref (aMo 5), .ref (aMo 6), .ref (aMo 7), .ref (aMo 8), .ref (aMo 9), .ref (aMo 10), .ref (aMo 11), .ref (aMo 12), .ref (aMo 13), .ref (aMo 14), .ref (aMo 15), .ref (aMo 16), .int (zI mo_size), .int (zI mo_runs), .ref (aMo 19), .ref (aMo 20), .ref (aMo 21), .int (zI mo_found), .int (zI mo_counted), .int (zI mo_isParted), .ref (aMo 25), .ref (aMo 26), .ref (aMo 27), .ref (aMo 28), .ref (aMo 29), .int (zI mo_maybes), .int (zI mo_days), .int (zI mo_over2), .int (zI mo_longer), .ref (aMo 34)])), ((aMo 3), .inl (ca 0, 11, .inl (zA mo_rules))), ((aMo 14), .inl (ca 0, 20161, .inl (zA mo_driven))), ((aMo 15), .inl (ca 0, 60, .inl (zA mo_runFrom))), ((aMo 16), .inl (ca 0, 60, .inl (zA mo_runTo))), ((aMo 25), .inl (ca 0, 12, .inl (zA mo_maybe))), ((aMo 26), .inl (ca 0, 62, .inl (zA mo_dayFrom))), ((aMo 27), .inl (ca 0, 62, .inl (zA mo_dayTo))), ((aMo 28), .inl (ca 0, 62, .inl (zA mo_dayRun))), ((aMo 29), .inl (ca 3, 62, .inl (zA mo_isLonger)))] 16 [(0, .ref (aMo 0)), (2, .int (zI v2))] [] := by
    intro mo_dayFrom mo_dayTo mo_dayRun mo_isLonger mo_days mo_longer
    intro n16
    induction n16 with
    | zero =>
      intro v2 mo_over2 hf
      exact zno hf
    | succ n16 ih16 =>
      intro v2 mo_over2 hf
      rw [zlp_s] at hf
      unfold fX11_reckons_16 at hf
      dsimp only at hf
      refine g_iload_n (pc := 16) C 1 dX11_reckons_16 rfl rfl ?_
      refine g_aload_n (pc := 17) C 0 dX11_reckons_17 rfl rfl ?_
      refine g_get (pc := 18) C zf_X11_154 0 rfl rfl dX11_reckons_18 ?_
      refine g_icmp_ge (pc := 21) C (tgt := 56) dX11_reckons_21 (by decide) hf (fun hf => ?_) (fun hf => ?_)
      · exact g_vret (pc := 56) C hf E rfl (fun _ => 0) [0, 1, 2, 3, 4, 5, 6, 7, 8, 9] (by decide) rfl rfl (Nat.le_refl _) (Nat.le_refl _) dX11_reckons_56
      · refine g_aload_n (pc := 24) C 0 dX11_reckons_24 rfl rfl ?_
        refine g_aload_n (pc := 25) C 0 dX11_reckons_25 rfl rfl ?_
        refine g_get (pc := 26) C zf_X11_177 0 rfl rfl dX11_reckons_26 ?_
        refine g_aload_n (pc := 29) C 0 dX11_reckons_29 rfl rfl ?_
        refine g_iload_n (pc := 30) C 1 dX11_reckons_30 rfl rfl ?_
        refine g_aload_n (pc := 31) C 0 dX11_reckons_31 rfl rfl ?_
        refine g_get (pc := 32) C zf_X11_77 0 rfl rfl dX11_reckons_32 ?_
        refine g_iload_n (pc := 35) C 1 dX11_reckons_35 rfl rfl ?_
        refine g_zald (pc := 36) C (N := 62) 9 rfl rfl (Nat.le_of_ble_eq_true rfl) dX11_reckons_36 hf (fun hf => ?_)
        obtain ⟨r_37, hc_37, hf⟩ := Option.bind_eq_some_iff.mp hf
        refine g_callV (pc := 37) C hl0 (wr := [((aMo 15), .inl (ca 0, 60, .inl (zA mo_runFrom))), ((aMo 16), .inl (ca 0, 60, .inl (zA mo_runTo))), ((aMo 25), .inl (ca 0, 12, .inl (zA mo_maybe))), ((aMo 28), .inl (ca 0, 62, .inl (zA mo_dayRun))), ((aMo 29), .inl (ca 3, 62, .inl (zA mo_isLonger)))]) (k' := 0) (n' := 0) (ws' := fun _ => [((aMo 15), .inl (ca 0, 60, .inl (zA mo_runFrom))), ((aMo 16), .inl (ca 0, 60, .inl (zA mo_runTo))), ((aMo 25), .inl (ca 0, 12, .inl (zA mo_maybe))), ((aMo 28), .inl (ca 0, 62, .inl (zA mo_dayRun))), ((aMo 29), .inl (ca 3, 62, .inl (zA mo_isLonger))), ((aMo 0), .inr (11, [.ref (aMo 1), .int (zI mo_taped), .ref (aMo 3), .ref (aMo 4), .ref (aMo 5), .ref (aMo 6), .ref (aMo 7), .ref (aMo 8), .ref (aMo 9), .ref (aMo 10), .ref (aMo 11), .ref (aMo 12), .ref (aMo 13), .ref (aMo 14), .ref (aMo 15), .ref (aMo 16), .int (zI mo_size), .int (zI mo_runs), .ref (aMo 19), .ref (aMo 20), .ref (aMo 21), .int (zI mo_found), .int (zI mo_counted), .int (zI mo_isParted), .ref (aMo 25), .ref (aMo 26), .ref (aMo 27), .ref (aMo 28), .ref (aMo 29), .int (zI mo_maybes), .int (zI mo_days), .int (zI mo_over2), .int (zI mo_longer), .ref (aMo 34)])), ((aMo 3), .inl (ca 0, 11, .inl (zA mo_rules))), ((aMo 14), .inl (ca 0, 20161, .inl (zA mo_driven))), ((aMo 26), .inl (ca 0, 62, .inl (zA mo_dayFrom))), ((aMo 27), .inl (ca 0, 62, .inl (zA mo_dayTo)))]) (st' := [.int (zI r_37), .int (zI mo_over2), .ref (aMo 0)]) (kX11_overOf l D ca aMo mo_taped mo_rules mo_driven mo_size mo_runs mo_found mo_counted mo_isParted mo_dayFrom mo_dayTo mo_maybes mo_days mo_over2 mo_longer v2 (mo_isLonger v2.toNat) r_37 hc_37) wml_RX11_167 wim_X11_overOf wse_X11_overOf win_RX11 wco_X11_overOf (nA := 2) rfl (by decide +kernel)  ⟨(Nat.le_of_ble_eq_true rfl), (Nat.le_of_ble_eq_true rfl)⟩ (Nat.le_refl _) (Nat.le_refl _) rfl (Nat.le_of_ble_eq_true rfl) dX11_reckons_37 0 11 rfl rfl rfl [0, 1, 2, 6, 7] [3, 4, 5, 8, 9] rfl rfl rfl (by decide) (by decide) (by decide) rfl rfl (fun _ => rfl) rfl (fun _ => ?_)
        refine g_iadd (pc := 40) C dX11_reckons_40 ?_
        refine g_aload_n (pc := 41) C 0 dX11_reckons_41 rfl rfl ?_
        refine g_iload_n (pc := 42) C 1 dX11_reckons_42 rfl rfl ?_
        obtain ⟨r_43, hc_43, hf⟩ := Option.bind_eq_some_iff.mp hf
        refine g_callV (pc := 43) C hl0 (wr := [((aMo 25), .inl (ca 0, 12, .inl (zA mo_maybe))), ((aMo 29), .inl (ca 3, 62, .inl (zA mo_isLonger))), ((aMo 14), .inl (ca 0, 20161, .inl (zA mo_driven))), ((aMo 27), .inl (ca 0, 62, .inl (zA mo_dayTo)))]) (k' := 0) (n' := 0) (ws' := fun _ => [((aMo 25), .inl (ca 0, 12, .inl (zA mo_maybe))), ((aMo 29), .inl (ca 3, 62, .inl (zA mo_isLonger))), ((aMo 14), .inl (ca 0, 20161, .inl (zA mo_driven))), ((aMo 27), .inl (ca 0, 62, .inl (zA mo_dayTo))), ((aMo 0), .inr (11, [.ref (aMo 1), .int (zI mo_taped), .ref (aMo 3), .ref (aMo 4), .ref (aMo 5), .ref (aMo 6), .ref (aMo 7), .ref (aMo 8), .ref (aMo 9), .ref (aMo 10), .ref (aMo 11), .ref (aMo 12), .ref (aMo 13), .ref (aMo 14), .ref (aMo 15), .ref (aMo 16), .int (zI mo_size), .int (zI mo_runs), .ref (aMo 19), .ref (aMo 20), .ref (aMo 21), .int (zI mo_found), .int (zI mo_counted), .int (zI mo_isParted), .ref (aMo 25), .ref (aMo 26), .ref (aMo 27), .ref (aMo 28), .ref (aMo 29), .int (zI mo_maybes), .int (zI mo_days), .int (zI mo_over2), .int (zI mo_longer), .ref (aMo 34)])), ((aMo 3), .inl (ca 0, 11, .inl (zA mo_rules))), ((aMo 15), .inl (ca 0, 60, .inl (zA mo_runFrom))), ((aMo 16), .inl (ca 0, 60, .inl (zA mo_runTo))), ((aMo 26), .inl (ca 0, 62, .inl (zA mo_dayFrom))), ((aMo 28), .inl (ca 0, 62, .inl (zA mo_dayRun)))]) (st' := [.int (zI r_43), .int (zI (mo_over2 + r_37)), .ref (aMo 0)]) (kX11_lateOf l D ca aMo mo_taped mo_rules mo_runFrom mo_runTo mo_size mo_runs mo_found mo_counted mo_isParted mo_dayFrom mo_dayRun mo_maybes mo_days mo_over2 mo_longer v2 r_43 hc_43) wml_RX11_180 wim_X11_lateOf wse_X11_lateOf win_RX11 wco_X11_lateOf (nA := 1) rfl (by decide +kernel)  ⟨(Nat.le_of_ble_eq_true rfl), (Nat.le_of_ble_eq_true rfl)⟩ (Nat.le_refl _) (Nat.le_refl _) rfl (Nat.le_of_ble_eq_true rfl) dX11_reckons_43 5 11 rfl rfl rfl [5, 6, 0, 1, 8, 3] [2, 4, 7, 9] rfl rfl rfl (by decide) (by decide) (by decide) rfl rfl (fun _ => rfl) rfl (fun _ => ?_)
        refine g_iadd (pc := 46) C dX11_reckons_46 ?_
        refine g_put (pc := 47) C zf_X11_177 tyX11 tyX11_ok nmX11 (v := .int (zI ((mo_over2 + r_37) + r_43))) (ws' := [((aMo 25), .inl (ca 0, 12, .inl (zA mo_maybe))), ((aMo 29), .inl (ca 3, 62, .inl (zA mo_isLonger))), ((aMo 14), .inl (ca 0, 20161, .inl (zA mo_driven))), ((aMo 27), .inl (ca 0, 62, .inl (zA mo_dayTo))), ((aMo 0), .inr (11, [.ref (aMo 1), .int (zI mo_taped), .ref (aMo 3), .ref (aMo 4), .ref (aMo 5), .ref (aMo 6), .ref (aMo 7), .ref (aMo 8), .ref (aMo 9), .ref (aMo 10), .ref (aMo 11), .ref (aMo 12), .ref (aMo 13), .ref (aMo 14), .ref (aMo 15), .ref (aMo 16), .int (zI mo_size), .int (zI mo_runs), .ref (aMo 19), .ref (aMo 20), .ref (aMo 21), .int (zI mo_found), .int (zI mo_counted), .int (zI mo_isParted), .ref (aMo 25), .ref (aMo 26), .ref (aMo 27), .ref (aMo 28), .ref (aMo 29), .int (zI mo_maybes), .int (zI mo_days), .int (zI ((mo_over2 + r_37) + r_43)), .int (zI mo_longer), .ref (aMo 34)])), ((aMo 3), .inl (ca 0, 11, .inl (zA mo_rules))), ((aMo 15), .inl (ca 0, 60, .inl (zA mo_runFrom))), ((aMo 16), .inl (ca 0, 60, .inl (zA mo_runTo))), ((aMo 26), .inl (ca 0, 62, .inl (zA mo_dayFrom))), ((aMo 28), .inl (ca 0, 62, .inl (zA mo_dayRun)))]) 4 rfl rfl rfl rfl rfl (Nat.le_of_ble_eq_true rfl) rfl rfl dX11_reckons_47 ?_
        refine g_iinc (pc := 50) C 1 (lv' := [(2, .int (zI (v2 + 1))), (0, .ref (aMo 0))]) dX11_reckons_50 rfl (Nat.le_of_ble_eq_true rfl) rfl ?_
        refine g_goto (pc := 53) C (tgt := 16) dX11_reckons_53 (by decide) ?_
        refine g_sub [4, 5, 2, 6, 7, 0, 8, 3, 9, 1] [1, 0] (by decide) rfl rfl rfl ?_
        exact ih16 _ _ hf
  unfold fX11_reckons at hf
  refine g_aload_n (pc := 0) C 0 dX11_reckons_0 rfl rfl ?_
  refine g_iload_n (pc := 1) C 1 dX11_reckons_1 rfl rfl ?_
  obtain ⟨⟨mo_dayFrom_2, mo_dayTo_2, mo_dayRun_2, mo_days_2⟩, hc_2, hf⟩ := Option.bind_eq_some_iff.mp hf
  dsimp only at hf
  refine g_callV (pc := 2) C hl0 (wr := [((aMo 14), .inl (ca 0, 20161, .inl (zA mo_driven))), ((aMo 29), .inl (ca 3, 62, .inl (zA mo_isLonger)))]) (k' := 0) (n' := 0) (ws' := fun _ => [((aMo 14), .inl (ca 0, 20161, .inl (zA mo_driven))), ((aMo 29), .inl (ca 3, 62, .inl (zA mo_isLonger))), ((aMo 0), .inr (11, [.ref (aMo 1), .int (zI mo_taped), .ref (aMo 3), .ref (aMo 4), .ref (aMo 5), .ref (aMo 6), .ref (aMo 7), .ref (aMo 8), .ref (aMo 9), .ref (aMo 10), .ref (aMo 11), .ref (aMo 12), .ref (aMo 13), .ref (aMo 14), .ref (aMo 15), .ref (aMo 16), .int (zI mo_size), .int (zI mo_runs), .ref (aMo 19), .ref (aMo 20), .ref (aMo 21), .int (zI mo_found), .int (zI mo_counted), .int (zI mo_isParted), .ref (aMo 25), .ref (aMo 26), .ref (aMo 27), .ref (aMo 28), .ref (aMo 29), .int (zI mo_maybes), .int (zI mo_days_2), .int (zI mo_over2), .int (zI mo_longer), .ref (aMo 34)])), ((aMo 3), .inl (ca 0, 11, .inl (zA mo_rules))), ((aMo 15), .inl (ca 0, 60, .inl (zA mo_runFrom))), ((aMo 16), .inl (ca 0, 60, .inl (zA mo_runTo))), ((aMo 25), .inl (ca 0, 12, .inl (zA mo_maybe))), ((aMo 26), .inl (ca 0, 62, .inl (zA mo_dayFrom_2))), ((aMo 27), .inl (ca 0, 62, .inl (zA mo_dayTo_2))), ((aMo 28), .inl (ca 0, 62, .inl (zA mo_dayRun_2)))]) (st' := []) (kX11_parts l D ca aMo mo_taped mo_rules mo_runFrom mo_runTo mo_size mo_runs mo_found mo_counted mo_isParted mo_maybe mo_dayFrom mo_dayTo mo_dayRun mo_maybes mo_days mo_over2 mo_longer v1 (mo_dayFrom_2, mo_dayTo_2, mo_dayRun_2, mo_days_2) hc_2) wml_RX11_171 wim_X11_parts wse_X11_parts win_RX11 wco_X11_parts (nA := 1) rfl (by decide +kernel)  ⟨(Nat.le_of_ble_eq_true rfl), (Nat.le_of_ble_eq_true rfl)⟩ (Nat.le_refl _) (Nat.le_refl _) rfl (Nat.le_of_ble_eq_true rfl) dX11_reckons_2 0 11 rfl rfl rfl [0, 1, 3, 4, 5, 6, 7, 8] [2, 9] rfl rfl rfl (by decide) (by decide) (by decide) rfl rfl (fun _ => rfl) rfl (fun _ => ?_)
  refine g_aload_n (pc := 5) C 0 dX11_reckons_5 rfl rfl ?_
  obtain ⟨⟨mo_isLonger_6, mo_longer_6⟩, hc_6, hf⟩ := Option.bind_eq_some_iff.mp hf
  dsimp only at hf
  refine g_callV (pc := 6) C hl0 (wr := [((aMo 15), .inl (ca 0, 60, .inl (zA mo_runFrom))), ((aMo 16), .inl (ca 0, 60, .inl (zA mo_runTo))), ((aMo 25), .inl (ca 0, 12, .inl (zA mo_maybe))), ((aMo 28), .inl (ca 0, 62, .inl (zA mo_dayRun_2)))]) (k' := 0) (n' := 0) (ws' := fun _ => [((aMo 15), .inl (ca 0, 60, .inl (zA mo_runFrom))), ((aMo 16), .inl (ca 0, 60, .inl (zA mo_runTo))), ((aMo 25), .inl (ca 0, 12, .inl (zA mo_maybe))), ((aMo 28), .inl (ca 0, 62, .inl (zA mo_dayRun_2))), ((aMo 0), .inr (11, [.ref (aMo 1), .int (zI mo_taped), .ref (aMo 3), .ref (aMo 4), .ref (aMo 5), .ref (aMo 6), .ref (aMo 7), .ref (aMo 8), .ref (aMo 9), .ref (aMo 10), .ref (aMo 11), .ref (aMo 12), .ref (aMo 13), .ref (aMo 14), .ref (aMo 15), .ref (aMo 16), .int (zI mo_size), .int (zI mo_runs), .ref (aMo 19), .ref (aMo 20), .ref (aMo 21), .int (zI mo_found), .int (zI mo_counted), .int (zI mo_isParted), .ref (aMo 25), .ref (aMo 26), .ref (aMo 27), .ref (aMo 28), .ref (aMo 29), .int (zI mo_maybes), .int (zI mo_days_2), .int (zI mo_over2), .int (zI mo_longer_6), .ref (aMo 34)])), ((aMo 3), .inl (ca 0, 11, .inl (zA mo_rules))), ((aMo 14), .inl (ca 0, 20161, .inl (zA mo_driven))), ((aMo 26), .inl (ca 0, 62, .inl (zA mo_dayFrom_2))), ((aMo 27), .inl (ca 0, 62, .inl (zA mo_dayTo_2))), ((aMo 29), .inl (ca 3, 62, .inl (zA mo_isLonger_6)))]) (st' := []) (kX11_extendsDays l D ca aMo mo_taped mo_rules mo_driven mo_size mo_runs mo_found mo_counted mo_isParted mo_dayFrom_2 mo_dayTo_2 mo_isLonger mo_maybes mo_days_2 mo_over2 mo_longer (mo_isLonger_6, mo_longer_6) hc_6) wml_RX11_174 wim_X11_extendsDays wse_X11_extendsDays win_RX11 wco_X11_extendsDays (nA := 0) rfl (by decide +kernel)  ⟨(Nat.le_of_ble_eq_true rfl), (Nat.le_of_ble_eq_true rfl)⟩ (Nat.le_refl _) (Nat.le_refl _) rfl (Nat.le_of_ble_eq_true rfl) dX11_reckons_6 2 11 rfl rfl rfl [2, 3, 0, 7, 8, 1] [4, 5, 6, 9] rfl rfl rfl (by decide) (by decide) (by decide) rfl rfl (fun _ => rfl) rfl (fun _ => ?_)
  refine g_aload_n (pc := 9) C 0 dX11_reckons_9 rfl rfl ?_
  refine g_iconst (pc := 10) C dX11_reckons_10 ?_
  refine g_put (pc := 11) C zf_X11_177 tyX11 tyX11_ok nmX11 (v := .int (zI 0)) (ws' := [((aMo 15), .inl (ca 0, 60, .inl (zA mo_runFrom))), ((aMo 16), .inl (ca 0, 60, .inl (zA mo_runTo))), ((aMo 25), .inl (ca 0, 12, .inl (zA mo_maybe))), ((aMo 28), .inl (ca 0, 62, .inl (zA mo_dayRun_2))), ((aMo 0), .inr (11, [.ref (aMo 1), .int (zI mo_taped), .ref (aMo 3), .ref (aMo 4), .ref (aMo 5), .ref (aMo 6), .ref (aMo 7), .ref (aMo 8), .ref (aMo 9), .ref (aMo 10), .ref (aMo 11), .ref (aMo 12), .ref (aMo 13), .ref (aMo 14), .ref (aMo 15), .ref (aMo 16), .int (zI mo_size), .int (zI mo_runs), .ref (aMo 19), .ref (aMo 20), .ref (aMo 21), .int (zI mo_found), .int (zI mo_counted), .int (zI mo_isParted), .ref (aMo 25), .ref (aMo 26), .ref (aMo 27), .ref (aMo 28), .ref (aMo 29), .int (zI mo_maybes), .int (zI mo_days_2), .int (zI 0), .int (zI mo_longer_6), .ref (aMo 34)])), ((aMo 3), .inl (ca 0, 11, .inl (zA mo_rules))), ((aMo 14), .inl (ca 0, 20161, .inl (zA mo_driven))), ((aMo 26), .inl (ca 0, 62, .inl (zA mo_dayFrom_2))), ((aMo 27), .inl (ca 0, 62, .inl (zA mo_dayTo_2))), ((aMo 29), .inl (ca 3, 62, .inl (zA mo_isLonger_6)))]) 4 rfl rfl rfl rfl rfl (Nat.le_of_ble_eq_true rfl) rfl rfl dX11_reckons_11 ?_
  refine g_iconst (pc := 14) C dX11_reckons_14 ?_
  refine g_istore_n (pc := 15) C (lv' := [(2, .int (zI 0)), (0, .ref (aMo 0)), (1, .int (zI v1))]) dX11_reckons_15 rfl (Nat.le_of_ble_eq_true rfl) rfl ?_
  refine g_sub [4, 5, 6, 0, 1, 2, 7, 8, 3, 9] [1, 0] (by decide) rfl rfl rfl ?_
  exact H16 _ _ _ _ _ _ _ _ _ hf
def oX11_mayBe (ca : Nat → ClassId) (aMo : Nat → Nat) (mo_taped : Int) (mo_rules : Nat → Int) (mo_runTo : Nat → Int) (mo_size : Int) (mo_runs : Int) (mo_found : Int) (mo_counted : Int) (mo_isParted : Int) (mo_maybe : Nat → Int) (mo_maybes : Int) (mo_days : Int) (mo_over2 : Int) (mo_longer : Int) (Ro : Int) : (Nat → Nat) → va_W := fun _ => [((aMo 0), .inr (11, [.ref (aMo 1), .int (zI mo_taped), .ref (aMo 3), .ref (aMo 4), .ref (aMo 5), .ref (aMo 6), .ref (aMo 7), .ref (aMo 8), .ref (aMo 9), .ref (aMo 10), .ref (aMo 11), .ref (aMo 12), .ref (aMo 13), .ref (aMo 14), .ref (aMo 15), .ref (aMo 16), .int (zI mo_size), .int (zI mo_runs), .ref (aMo 19), .ref (aMo 20), .ref (aMo 21), .int (zI mo_found), .int (zI mo_counted), .int (zI mo_isParted), .ref (aMo 25), .ref (aMo 26), .ref (aMo 27), .ref (aMo 28), .ref (aMo 29), .int (zI mo_maybes), .int (zI mo_days), .int (zI mo_over2), .int (zI mo_longer), .ref (aMo 34)])), ((aMo 3), .inl (ca 0, 11, .inl (zA mo_rules))), ((aMo 16), .inl (ca 0, 60, .inl (zA mo_runTo))), ((aMo 25), .inl (ca 0, 12, .inl (zA mo_maybe)))]
def oiX11_mayBe (Ro : Int) : Option Value := (some (.int (zI Ro)))
set_option maxRecDepth 100000 in
theorem kX11_mayBe (l : Launch) (D : va_G) (ca : Nat → ClassId) (aMo : Nat → Nat) (mo_taped : Int) (mo_rules : Nat → Int) (mo_runTo : Nat → Int) (mo_size : Int) (mo_runs : Int) (mo_found : Int) (mo_counted : Int) (mo_isParted : Int) (mo_maybe : Nat → Int) (mo_maybes : Int) (mo_days : Int) (mo_over2 : Int) (mo_longer : Int) (v1 : Int) (Ro : Int)
    (hf : fX11_mayBe v1 mo_rules mo_runTo mo_maybe mo_maybes = some Ro) : Zc l D ca yX11_mayBe cX11_mayBe 5 (some .boolean) { frames := 0, cells := 0, slots := 0, locals := 0 } [.ref (aMo 0), .int (zI v1)] [((aMo 0), .inr (11, [.ref (aMo 1), .int (zI mo_taped), .ref (aMo 3), .ref (aMo 4), .ref (aMo 5), .ref (aMo 6), .ref (aMo 7), .ref (aMo 8), .ref (aMo 9), .ref (aMo 10), .ref (aMo 11), .ref (aMo 12), .ref (aMo 13), .ref (aMo 14), .ref (aMo 15), .ref (aMo 16), .int (zI mo_size), .int (zI mo_runs), .ref (aMo 19), .ref (aMo 20), .ref (aMo 21), .int (zI mo_found), .int (zI mo_counted), .int (zI mo_isParted), .ref (aMo 25), .ref (aMo 26), .ref (aMo 27), .ref (aMo 28), .ref (aMo 29), .int (zI mo_maybes), .int (zI mo_days), .int (zI mo_over2), .int (zI mo_longer), .ref (aMo 34)])), ((aMo 3), .inl (ca 0, 11, .inl (zA mo_rules))), ((aMo 16), .inl (ca 0, 60, .inl (zA mo_runTo))), ((aMo 25), .inl (ca 0, 12, .inl (zA mo_maybe)))] (oiX11_mayBe Ro) (oX11_mayBe ca aMo mo_taped mo_rules mo_runTo mo_size mo_runs mo_found mo_counted mo_isParted mo_maybe mo_maybes mo_days mo_over2 mo_longer Ro) := by
  refine ctr_of (lv := [(0, .ref (aMo 0)), (1, .int (zI v1))]) (by decide +kernel) (Nat.le_of_ble_eq_true rfl) rfl (fun Γ hl0 C E hnm => ?_)
  have H2 : ∀  (n2 : Nat) (v2 : Int), zlp (fX11_mayBe_2 v1 mo_rules mo_runTo mo_maybe mo_maybes) n2 v2 = some Ro → Zd D Γ 0 0 [((aMo 0), .inr (11, [.ref (aMo 1), .int (zI mo_taped), .ref (aMo 3), .ref (aMo 4), .ref (aMo 5), .ref (aMo 6), .ref (aMo 7), .ref (aMo 8), .ref (aMo 9), .ref (aMo 10), .ref (aMo 11), .ref (aMo 12), .ref (aMo 13), .ref (aMo 14), .ref (aMo 15), .ref (aMo 16), .int (zI mo_size), .int (zI mo_runs), .ref (aMo 19), .ref (aMo 20), .ref (aMo 21), .int (zI mo_found), .int (zI mo_counted), .int (zI mo_isParted), .ref (aMo 25), .ref (aMo 26), .ref (aMo 27), .ref (aMo 28), .ref (aMo 29), .int (zI mo_maybes), .int (zI mo_days), .int (zI mo_over2), .int (zI mo_longer), .ref (aMo 34)])), ((aMo 3), .inl (ca 0, 11, .inl (zA mo_rules))), ((aMo 16), .inl (ca 0, 60, .inl (zA mo_runTo))), ((aMo 25), .inl (ca 0, 12, .inl (zA mo_maybe)))] 2 [(0, .ref (aMo 0)), (1, .int (zI v1)), (2, .int (zI v2))] [] := by
    intro n2
    induction n2 with
    | zero =>
      intro v2 hf
      exact zno hf
    | succ n2 ih2 =>
      have H12 : ∀ (v2 : Int) (n12 : Nat) (v3 : Int) (v4 : Int), zlp (fX11_mayBe_12 (zlp (fX11_mayBe_2 v1 mo_rules mo_runTo mo_maybe mo_maybes) n2) v1 v2 mo_rules mo_runTo mo_maybe mo_maybes) n12 (v3, v4) = some Ro → Zd D Γ 0 0 [((aMo 0), .inr (11, [.ref (aMo 1), .int (zI mo_taped), .ref (aMo 3), .ref (aMo 4), .ref (aMo 5), .ref (aMo 6), .ref (aMo 7), .ref (aMo 8), .ref (aMo 9), .ref (aMo 10), .ref (aMo 11), .ref (aMo 12), .ref (aMo 13), .ref (aMo 14), .ref (aMo 15), .ref (aMo 16), .int (zI mo_size), .int (zI mo_runs), .ref (aMo 19), .ref (aMo 20), .ref (aMo 21), .int (zI mo_found), .int (zI mo_counted), .int (zI mo_isParted), .ref (aMo 25), .ref (aMo 26), .ref (aMo 27), .ref (aMo 28), .ref (aMo 29), .int (zI mo_maybes), .int (zI mo_days), .int (zI mo_over2), .int (zI mo_longer), .ref (aMo 34)])), ((aMo 3), .inl (ca 0, 11, .inl (zA mo_rules))), ((aMo 16), .inl (ca 0, 60, .inl (zA mo_runTo))), ((aMo 25), .inl (ca 0, 12, .inl (zA mo_maybe)))] 12 [(0, .ref (aMo 0)), (1, .int (zI v1)), (2, .int (zI v2)), (3, .int (zI v3)), (4, .int (zI v4))] [] := by
        intro v2
        intro n12
        induction n12 with
        | zero =>
          intro v3 v4 hf
          exact zno hf
        | succ n12 ih12 =>
          have H59 : ∀ (v4 : Int) (s0 : Int) (s1 : Int), fX11_mayBe_59 (zlp (fX11_mayBe_12 (zlp (fX11_mayBe_2 v1 mo_rules mo_runTo mo_maybe mo_maybes) n2) v1 v2 mo_rules mo_runTo mo_maybe mo_maybes) n12) v4 s0 s1 = some Ro → Zd D Γ 0 0 [((aMo 0), .inr (11, [.ref (aMo 1), .int (zI mo_taped), .ref (aMo 3), .ref (aMo 4), .ref (aMo 5), .ref (aMo 6), .ref (aMo 7), .ref (aMo 8), .ref (aMo 9), .ref (aMo 10), .ref (aMo 11), .ref (aMo 12), .ref (aMo 13), .ref (aMo 14), .ref (aMo 15), .ref (aMo 16), .int (zI mo_size), .int (zI mo_runs), .ref (aMo 19), .ref (aMo 20), .ref (aMo 21), .int (zI mo_found), .int (zI mo_counted), .int (zI mo_isParted), .ref (aMo 25), .ref (aMo 26), .ref (aMo 27), .ref (aMo 28), .ref (aMo 29), .int (zI mo_maybes), .int (zI mo_days), .int (zI mo_over2), .int (zI mo_longer), .ref (aMo 34)])), ((aMo 3), .inl (ca 0, 11, .inl (zA mo_rules))), ((aMo 16), .inl (ca 0, 60, .inl (zA mo_runTo))), ((aMo 25), .inl (ca 0, 12, .inl (zA mo_maybe)))] 59 [(0, .ref (aMo 0)), (1, .int (zI v1)), (2, .int (zI v2)), (4, .int (zI v4))] [.int (zI s1), .int (zI s0)] := by
            intro v4 s0 s1 hf
            unfold fX11_mayBe_59 at hf
            refine g_iadd (pc := 59) C dX11_mayBe_59 ?_
            refine g_istore_n (pc := 60) C (lv' := [(3, .int (zI (s0 + s1))), (0, .ref (aMo 0)), (1, .int (zI v1)), (2, .int (zI v2)), (4, .int (zI v4))]) dX11_mayBe_60 rfl (Nat.le_of_ble_eq_true rfl) rfl ?_
            refine g_iinc (pc := 61) C 4 (lv' := [(4, .int (zI (v4 + 1))), (3, .int (zI (s0 + s1))), (0, .ref (aMo 0)), (1, .int (zI v1)), (2, .int (zI v2))]) dX11_mayBe_61 rfl (Nat.le_of_ble_eq_true rfl) rfl ?_
            refine g_goto (pc := 64) C (tgt := 12) dX11_mayBe_64 (by decide) ?_
            refine g_sub [0, 1, 2, 3] [2, 3, 4, 1, 0] (by decide) rfl rfl rfl ?_
            exact ih12 _ _ hf
          have H58 : ∀ (v4 : Int) (s0 : Int), fX11_mayBe_58 (zlp (fX11_mayBe_12 (zlp (fX11_mayBe_2 v1 mo_rules mo_runTo mo_maybe mo_maybes) n2) v1 v2 mo_rules mo_runTo mo_maybe mo_maybes) n12) v4 s0 = some Ro → Zd D Γ 0 0 [((aMo 0), .inr (11, [.ref (aMo 1), .int (zI mo_taped), .ref (aMo 3), .ref (aMo 4), .ref (aMo 5), .ref (aMo 6), .ref (aMo 7), .ref (aMo 8), .ref (aMo 9), .ref (aMo 10), .ref (aMo 11), .ref (aMo 12), .ref (aMo 13), .ref (aMo 14), .ref (aMo 15), .ref (aMo 16), .int (zI mo_size), .int (zI mo_runs), .ref (aMo 19), .ref (aMo 20), .ref (aMo 21), .int (zI mo_found), .int (zI mo_counted), .int (zI mo_isParted), .ref (aMo 25), .ref (aMo 26), .ref (aMo 27), .ref (aMo 28), .ref (aMo 29), .int (zI mo_maybes), .int (zI mo_days), .int (zI mo_over2), .int (zI mo_longer), .ref (aMo 34)])), ((aMo 3), .inl (ca 0, 11, .inl (zA mo_rules))), ((aMo 16), .inl (ca 0, 60, .inl (zA mo_runTo))), ((aMo 25), .inl (ca 0, 12, .inl (zA mo_maybe)))] 58 [(0, .ref (aMo 0)), (1, .int (zI v1)), (2, .int (zI v2)), (4, .int (zI v4))] [.int (zI s0)] := by
            intro v4 s0 hf
            unfold fX11_mayBe_58 at hf
            refine g_iconst (pc := 58) C dX11_mayBe_58 ?_
            exact H59 _ _ _ hf
          intro v3 v4 hf
          rw [zlp_s] at hf
          unfold fX11_mayBe_12 at hf
          dsimp only at hf
          refine g_iload (pc := 12) C 4 dX11_mayBe_12 rfl ?_
          refine g_aload_n (pc := 14) C 0 dX11_mayBe_14 rfl rfl ?_
          refine g_get (pc := 15) C zf_X11_151 0 rfl rfl dX11_mayBe_15 ?_
          refine g_icmp_ge (pc := 18) C (tgt := 67) dX11_mayBe_18 (by decide) hf (fun hf => ?_) (fun hf => ?_)
          · refine g_iload_n (pc := 67) C 3 dX11_mayBe_67 rfl rfl ?_
            refine g_aload_n (pc := 68) C 0 dX11_mayBe_68 rfl rfl ?_
            refine g_get (pc := 69) C zf_X11_13 0 rfl rfl dX11_mayBe_69 ?_
            refine g_bipush (pc := 72) C dX11_mayBe_72 (by decide) ?_
            refine g_ialdK (pc := 74) C 9 1 rfl rfl (Nat.le_of_ble_eq_true rfl) (Nat.le_of_ble_eq_true rfl) dX11_mayBe_74 ?_
            refine g_icmp_le (pc := 75) C (tgt := 80) dX11_mayBe_75 (by decide) hf (fun hf => ?_) (fun hf => ?_)
            · refine g_iinc (pc := 80) C 2 (lv' := [(2, .int (zI (v2 + 1))), (0, .ref (aMo 0)), (1, .int (zI v1)), (3, .int (zI v3)), (4, .int (zI v4))]) dX11_mayBe_80 rfl (Nat.le_of_ble_eq_true rfl) rfl ?_
              refine g_goto (pc := 83) C (tgt := 2) dX11_mayBe_83 (by decide) ?_
              refine g_sub [0, 1, 2, 3] [1, 2, 0] (by decide) rfl rfl rfl ?_
              exact ih2 _ hf
            · refine g_iconst (pc := 78) C dX11_mayBe_78 ?_
              exact g_zret (pc := 79) C hf E (by decide) rfl (fun _ => 0) [0, 1, 2, 3] (by decide) rfl rfl (Nat.le_refl _) (Nat.le_refl _) dX11_mayBe_79
          · refine g_iload_n (pc := 21) C 3 dX11_mayBe_21 rfl rfl ?_
            refine g_iload_n (pc := 22) C 1 dX11_mayBe_22 rfl rfl ?_
            refine g_iload (pc := 23) C 4 dX11_mayBe_23 rfl ?_
            refine g_ishr (pc := 25) C dX11_mayBe_25 ?_
            refine g_iconst (pc := 26) C dX11_mayBe_26 ?_
            refine g_iand (pc := 27) C dX11_mayBe_27 ?_
            refine g_iconst (pc := 28) C dX11_mayBe_28 ?_
            refine g_icmp_ner (pc := 29) C (tgt := 58) dX11_mayBe_29 (by decide) (by decide) hf (fun hf => ?_) (fun hf => ?_)
            · refine g_sub [0, 1, 2, 3] [0, 1, 2, 4] (by decide) rfl rfl rfl ?_
              exact H58 _ _ hf
            · refine g_aload_n (pc := 32) C 0 dX11_mayBe_32 rfl rfl ?_
              refine g_get (pc := 33) C zf_X11_53 0 rfl rfl dX11_mayBe_33 ?_
              refine g_aload_n (pc := 36) C 0 dX11_mayBe_36 rfl rfl ?_
              refine g_get (pc := 37) C zf_X11_65 0 rfl rfl dX11_mayBe_37 ?_
              refine g_iload (pc := 40) C 4 dX11_mayBe_40 rfl ?_
              refine g_iald (pc := 42) C (N := 12) 3 rfl rfl (Nat.le_of_ble_eq_true rfl) dX11_mayBe_42 hf (fun hf => ?_)
              refine g_iald (pc := 43) C (N := 60) 2 rfl rfl (Nat.le_of_ble_eq_true rfl) dX11_mayBe_43 hf (fun hf => ?_)
              refine g_iconst (pc := 44) C dX11_mayBe_44 ?_
              refine g_isub (pc := 45) C dX11_mayBe_45 ?_
              refine g_sipush (pc := 46) C dX11_mayBe_46 (by decide) ?_
              refine g_idiv (pc := 49) C dX11_mayBe_49 (by decide) hf (fun hf => ?_)
              refine g_iload_n (pc := 50) C 2 dX11_mayBe_50 rfl rfl ?_
              refine g_icmp_ne (pc := 51) C (tgt := 58) dX11_mayBe_51 (by decide) hf (fun hf => ?_) (fun hf => ?_)
              · refine g_sub [0, 1, 2, 3] [0, 1, 2, 4] (by decide) rfl rfl rfl ?_
                exact H58 _ _ hf
              · refine g_iconst (pc := 54) C dX11_mayBe_54 ?_
                refine g_goto (pc := 55) C (tgt := 59) dX11_mayBe_55 (by decide) ?_
                refine g_sub [0, 1, 2, 3] [0, 1, 2, 4] (by decide) rfl rfl rfl ?_
                exact H59 _ _ _ hf
      intro v2 hf
      rw [zlp_s] at hf
      unfold fX11_mayBe_2 at hf
      refine g_iload_n (pc := 2) C 2 dX11_mayBe_2 rfl rfl ?_
      refine g_iconst (pc := 3) C dX11_mayBe_3 ?_
      refine g_icmp_ger (pc := 4) C (tgt := 86) dX11_mayBe_4 (by decide) (by decide) hf (fun hf => ?_) (fun hf => ?_)
      · refine g_iconst (pc := 86) C dX11_mayBe_86 ?_
        exact g_zret (pc := 87) C hf E (by decide) rfl (fun _ => 0) [0, 1, 2, 3] (by decide) rfl rfl (Nat.le_refl _) (Nat.le_refl _) dX11_mayBe_87
      · refine g_iconst (pc := 7) C dX11_mayBe_7 ?_
        refine g_istore_n (pc := 8) C (lv' := [(3, .int (zI 0)), (0, .ref (aMo 0)), (1, .int (zI v1)), (2, .int (zI v2))]) dX11_mayBe_8 rfl (Nat.le_of_ble_eq_true rfl) rfl ?_
        refine g_iconst (pc := 9) C dX11_mayBe_9 ?_
        refine g_istore (pc := 10) C (lv' := [(4, .int (zI 0)), (3, .int (zI 0)), (0, .ref (aMo 0)), (1, .int (zI v1)), (2, .int (zI v2))]) dX11_mayBe_10 (Nat.le_of_ble_eq_true rfl) rfl ?_
        refine g_sub [0, 1, 2, 3] [2, 3, 4, 1, 0] (by decide) rfl rfl rfl ?_
        exact H12 _ _ _ _ hf
  unfold fX11_mayBe at hf
  refine g_iconst (pc := 0) C dX11_mayBe_0 ?_
  refine g_istore_n (pc := 1) C (lv' := [(2, .int (zI 0)), (0, .ref (aMo 0)), (1, .int (zI v1))]) dX11_mayBe_1 rfl (Nat.le_of_ble_eq_true rfl) rfl ?_
  refine g_sub [0, 1, 2, 3] [1, 2, 0] (by decide) rfl rfl rfl ?_
  exact H2 _ _ hf
