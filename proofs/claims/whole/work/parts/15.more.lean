/-! rows for arrays of references, new arrays, new objects, constructors -/
section ZMORE
variable {D : va_G} {ca : Nat → ClassId} {Γ : ZG} {cc : ByteArray} {own : String} {nL : Nat} {R : Room} {k n : Nat} {ws : va_W} {pc : Nat} {lv : List (Nat × Value)} {st : List Value} {ρ : Type} {r : ρ}
theorem g_aald (C : Zx D ca Γ cc own nL R) {x N : Int} {na a t : Nat} {cA : ClassId} {cn : String} {f : Nat → Option Nat} {F : Option ρ} {v : Value} (q : Nat) (he : ws[q]? = some (a, .inl (cA, na, .inr (.inr (.inr (.inr f)))))) (ht : (zT ca)[t]? = some (cA, .object cn)) (hN : N = (na : Int)) (hb : na < 2147483648) (hv : va_rf (f x.toNat) = v) (d : decode cc pc = .ok (.aaload, 1)) (hf : (if 0 ≤ x ∧ x < N then F else none) = some r) (kk : F = some r → Zd D Γ k n ws (pc + 1) lv (v :: st)) : Zd D Γ k n ws pc lv (.int (zI x) :: .ref a :: st) := by
  intro H locs ls hP hD hS hl
  subst hN
  obtain ⟨hc, hf2⟩ := zck hf
  have hR : zR x := by omega
  refine va_aldq C.hx C.hb C.hK hP q t he ht (zI_vin hc.1 hc.2 hR) d ?_
  rw [zI_clamp hc.1 hR, hv]
  exact kk hf2 H locs ls hP hD hS hl
theorem g_aaldK (C : Zx D ca Γ cc own nL R) {x : Int} {na a t : Nat} {cA : ClassId} {cn : String} {f : Nat → Option Nat} {v : Value} (j q : Nat) (he : ws[q]? = some (a, .inl (cA, na, .inr (.inr (.inr (.inr f)))))) (ht : (zT ca)[t]? = some (cA, .object cn)) (hj : x = (j : Int)) (hlt : j < na) (hb : na < 2147483648) (hv : va_rf (f j) = v) (d : decode cc pc = .ok (.aaload, 1)) (kk : Zd D Γ k n ws (pc + 1) lv (v :: st)) : Zd D Γ k n ws pc lv (.int (zI x) :: .ref a :: st) := by
  intro H locs ls hP hD hS hl
  subst hj
  have hR : zR (j : Int) := by omega
  refine va_aldq C.hx C.hb C.hK hP q t he ht (zI_vin (by omega) (by omega) hR) d ?_
  rw [zI_clamp (by omega) hR, Int.toNat_natCast, hv]
  exact kk H locs ls hP hD hS hl
theorem g_aastK (C : Zx D ca Γ cc own nL R) {x : Int} {na a t v ci : Nat} {cA : ClassId} {cr : vw_C} {vs : List Value} {f f' : Nat → Option Nat} {ws' : va_W} (j q qk : Nat) (he : ws[q]? = some (a, .inl (cA, na, .inr (.inr (.inr (.inr f)))))) (ht : (zT ca)[t]? = some (cA, .object cr.1)) (hv : ws[qk]? = some (v, .inr (ci, vs))) (hc : vwCl[ci]? = some cr) (hj : x = (j : Int)) (hlt : j < na) (hb : na < 2147483648) (hf' : va_up f j (some v) = f') (hw : ws.set q (a, .inl (cA, na, .inr (.inr (.inr (.inr f'))))) = ws') (d : decode cc pc = .ok (.aastore, 1)) (kk : Zd D Γ k n ws' (pc + 1) lv st) : Zd D Γ k n ws pc lv (.ref v :: .int (zI x) :: .ref a :: st) := by
  intro H locs ls hP hD hS hl
  subst hj
  have hR : zR (j : Int) := by omega
  refine va_astq C.hx C.hb C.hK hP hD hS q t qk ci he ht hv hc (zI_vin (by omega) (by omega) hR) d (fun H locs hP hD hS => ?_)
  rw [zI_clamp (by omega) hR, Int.toNat_natCast, hf'] at hP hD
  subst hw
  exact kk H locs ls hP hD hS hl
theorem g_sameA (C : Zx D ca Γ cc own nL R) {t : Nat} {cA cB : ClassId} {ty : FieldType} (h1 : va_RA (zg_s Γ) cA ty) (ht : (zT ca)[t]? = some (cB, ty)) : cA = cB := by
  have h2 := (C.hK.2 t _ ht).2
  cases ty with
  | object cn =>
    obtain ⟨-, -, -, -, -, e1⟩ := h1
    obtain ⟨-, -, -, -, -, e2⟩ := h2
    exact Option.some.inj (e1.symm.trans e2)
  | _ => exact Option.some.inj (h1.symm.trans h2)
/-- a new array of numbers, its cells all 0 -/
theorem g_newa (C : Zx D ca Γ cc own nL R) {x : Int} {N' t : Nat} {atype : ArrayType} {ty : FieldType} {cB : ClassId} {a0 : (Nat → Int32) ⊕ (Nat → Int64) ⊕ (Nat → UInt32) ⊕ (Nat → UInt64) ⊕ (Nat → Option Nat)} (hw : Cond.arrayClass (newarray.typeOf atype) ∈ zW) (hty : newarray.typeOf atype = ty) (ht : (zT ca)[t]? = some (cB, ty)) (ha : ∀ cA : ClassId, vp_cell cA (N', a0) = arrV cA N' (fun _ => defaultValue ty)) (h0 : 0 ≤ x) (hx : zR x) (hN : x.toNat = N') (hby : N' * componentBytes ty ≤ 536870912) (hk : k + 1 ≤ R.cells) (hn : n + N' ≤ R.slots) (d : decode cc pc = .ok (.newarray atype, 2))
    {k' n' : Nat} (hk' : k + 1 = k') (hn' : n + N' = n') (kk : ∀ q : Nat, Zd D Γ k' n' (ws ++ [(q, .inl (cB, N', a0))]) (pc + 2) lv (.ref q :: st)) : Zd D Γ k n ws pc lv (.int (zI x) :: st) := by
  intro H locs ls hP hD hS hl
  subst hk'
  subst hn'
  refine va_newa C.hx C.hb (C.ht _ hw) hty C.hK hP hD hS C.hA (a0 := (N', a0)) ha (fun q => by have := (zI_lt hx (y := 0) (by decide)).mp q; omega) (by rw [zI_clamp h0 hx, hN]) hby (by rw [C.hR]; exact hk) (by rw [C.hR]; exact hn) d (fun q cA H1 hK1 hP1 hD1 hS1 => ?_)
  have hA : cA = cB := g_sameA C (hK1.2 (zT ca).length _ (by rw [List.getElem?_append_right (Nat.le_refl _), Nat.sub_self]; rfl)).2 ht
  subst hA
  exact kk q H1 locs ls hP1 hD1 hS1 hl
theorem zb_int (cA : ClassId) (N : Nat) : vp_cell cA (N, .inl (zA (fun _ => 0))) = arrV cA N (fun _ => defaultValue .int) := rfl
theorem zb_byte (cA : ClassId) (N : Nat) : vp_cell cA (N, .inl (zA (fun _ => 0))) = arrV cA N (fun _ => defaultValue .byte) := rfl
theorem zb_bool (cA : ClassId) (N : Nat) : vp_cell cA (N, .inl (zA (fun _ => 0))) = arrV cA N (fun _ => defaultValue .boolean) := rfl
theorem zb_long (cA : ClassId) (N : Nat) : vp_cell cA (N, .inr (.inl (zB (fun _ => 0)))) = arrV cA N (fun _ => defaultValue .long) := rfl
/-- a new array of references -/
theorem g_newq (C : Zx D ca Γ cc own nL R) {x : Int} {N' t idx : Nat} {cn : String} {cB : ClassId} (hw : Cond.classLink own idx cn ∈ zW) (hov : va_AO cn (zg_s Γ)) (ht : (zT ca)[t]? = some (cB, .object cn)) (h0 : 0 ≤ x) (hx : zR x) (hN : x.toNat = N') (hby : N' * 4 ≤ 536870912) (hk : k + 1 ≤ R.cells) (hn : n + N' ≤ R.slots) (d : decode cc pc = .ok (.anewarray idx, 3))
    {k' n' : Nat} (hk' : k + 1 = k') (hn' : n + N' = n') (kk : ∀ q : Nat, Zd D Γ k' n' (ws ++ [(q, .inl (cB, N', .inr (.inr (.inr (.inr (fun _ => none))))))]) (pc + 3) lv (.ref q :: st)) : Zd D Γ k n ws pc lv (.int (zI x) :: st) := by
  intro H locs ls hP hD hS hl
  subst hk'
  subst hn'
  refine va_newq C.hx C.hb C.ho (C.ht _ hw) hov C.hK hP hD hS C.hA (fun q => by have := (zI_lt hx (y := 0) (by decide)).mp q; omega) (by rw [zI_clamp h0 hx, hN]) hby (by rw [C.hR]; exact hk) (by rw [C.hR]; exact hn) d (fun q cA H1 hK1 hP1 hD1 hS1 => ?_)
  have hA : cA = cB := g_sameA C (hK1.2 (zT ca).length _ (by rw [List.getElem?_append_right (Nat.le_refl _), Nat.sub_self]; rfl)).2 ht
  subst hA
  exact kk q H1 locs ls hP1 hD1 hS1 hl
/-- a new object, its fields as at first -/
theorem g_new (C : Zx D ca Γ cc own nL R) {idx ci N : Nat} {cn : String} {T : u_T} (ty : Nat → FieldType) (hty : ∀ k, k < N → parseFieldDescriptor (T k).2.2.1 = some (ty k)) (hu : ∀ w ∈ u_ws cn T N, w ∈ zW) (hw1 : Cond.classLink own idx cn ∈ zW) (hw2 : Cond.instantiable cn N ∈ zW) (hw3 : Cond.initialized cn ∈ zW) (hc : vwCl[ci]? = some (cn, T, N)) {fs : List Value} (hfs : ∀ j, j < N → defaultValue (ty j) = vp_V fs j) (hk : k + 1 ≤ R.cells) (hn : n + N ≤ R.slots) (d : decode cc pc = .ok (.new idx, 3))
    {k' n' : Nat} (hk' : k + 1 = k') (hn' : n + N = n') (kk : ∀ q : Nat, Zd D Γ k' n' (ws ++ [(q, .inr (ci, fs))]) (pc + 3) lv (.ref q :: st)) : Zd D Γ k n ws pc lv st := by
  intro H locs ls hP hD hS hl
  subst hk'
  subst hn'
  exact va_new C.hx C.hb C.ht hu ty hty C.ho (C.ht _ hw1) (C.ht _ hw2) (C.ht _ hw3) C.hK hP hD hS C.hA hc hfs (by rw [C.hR]; exact hk) (by rw [C.hR]; exact hn) d (fun q H1 hP1 hD1 hS1 => kk q H1 locs ls hP1 hD1 hS1 hl)
theorem g_objInit (C : Zx D ca Γ cc own nL R) {idx a : Nat} (hw : Cond.methodLink own idx objectInit ∈ zW) (hfr : 1 ≤ R.frames) (hlo : (st.map fun v => v.category).sum + 12 ≤ R.locals) (d : decode cc pc = .ok (.invokespecial idx, 3)) (kk : Zd D Γ k n ws (pc + 3) lv st) : Zd D Γ k n ws pc lv (.ref a :: st) := by
  intro H locs ls hP hD hS hl
  refine W.objInit C.hx C.hb C.ho (C.ht _ hw) (C.ht _ wim_objInit) (C.ht _ wco_objInit) rfl (by rw [C.hml]; exact hl.1) rfl d (by rw [C.hR]; exact hfr) (by rw [C.hR]; show 2 * 0 + _ + 12 ≤ _; omega) ?_
  exact kk H locs ls hP hD hS hl
theorem g_putF (C : Zx D ca Γ cc own nL R) {idx ci fk N a : Nat} {T : u_T} (hnm0 : (zg_t Γ).name = "<init>") (f : Zf own idx ci fk own T N) (ty0 : Nat → FieldType) (hty : ∀ k, k < N → parseFieldDescriptor (T k).2.2.1 = some (ty0 k)) (hnm : ∀ a, a < N → ∀ b, b < N → a ≠ b → (T a).2.1 ≠ (T b).2.1) (q : Nat) {fs fs' : List Value} {ws' : va_W} {ty : FieldType} {v : Value} (he : ws[q]? = some (a, .inr (ci, fs))) (hfin : (T fk).2.2.2 = true) (hd : ty0 fk = ty) (hn : narrow ty v = v) (hfit : fits ty v = true) (hl0 : fk < fs.length) (hs : fs.set fk v = fs') (hw : ws.set q (a, .inr (ci, fs')) = ws') (d : decode cc pc = .ok (.putfield idx, 3)) (kk : Zd D Γ k n ws' (pc + 3) lv st) : Zd D Γ k n ws pc lv (v :: .ref a :: st) := by
  intro H locs ls hP hD hS hl
  obtain ⟨f1, f2, f3, f4, f5⟩ := f
  refine va_putF C.hx C.hb C.ht f1 ty0 hty hnm C.ho C.hK hP hD hS q he f2 fk f3 (C.ht _ f4) (fun x hx => by rw [f5] at hx; exact hx) hfin hnm0 f5 (by rw [← hd]; exact hty fk f3) hn hfit hl0 d (fun H locs hP hD hS => ?_)
  subst hs
  subst hw
  exact kk H locs ls hP hD hS hl
/-- the world of a goal in another writing -/
theorem g_eq {ws' : va_W} (h : ws = ws') (kk : Zd D Γ k n ws' pc lv st) : Zd D Γ k n ws pc lv st := h ▸ kk
end ZMORE
section ZCALLI
variable {D : va_G} {ca : Nat → ClassId} {Γ : ZG} {cc : ByteArray} {own : String} {nL : Nat} {R rm : Room} {k n : Nat} {ws : va_W} {pc : Nat} {lv : List (Nat × Value)} {st rest : List Value} {wc wr : va_W} {res : Option Value} {wc' : (Nat → Nat) → va_W}
variable {y : MethodName} {bytes : ByteArray} {maxL : Nat} {idx : Nat}
/-- a call of a constructor -/
theorem g_callI (C : Zx D ca Γ cc own nL R) {l : Launch} (hl0 : zg_l Γ = l) {As : List Value} {b : Nat} (hM : Zc l D ca y bytes maxL none rm (.ref b :: As) wc res wc') (hw1 : Cond.methodLink own idx y ∈ zW) (hw2 : Cond.instanceMethod y ∈ zW) (hw4 : Cond.initialized y.cls ∈ zW) (hw5 : Cond.code y bytes maxL none ∈ zW) (hyn : y.name = "<init>")
    {nA : Nat} (hnA : As.length = nA) (hd : y.cls ≠ "java/lang/invoke/MethodHandle" ∧ y.cls ≠ "java/lang/invoke/VarHandle" ∧ (parseMethodDescriptor y.desc).map (fun d => d.parameters.length) = some nA) (hR : rm.frames + 1 ≤ R.frames ∧ 8 + (maxL + 11) + rm.locals ≤ R.locals) (hk : k + rm.cells ≤ R.cells) (hn : n + rm.slots ≤ R.slots)
    (hst : st = As.reverse ++ .ref b :: rest) (hW : (rest.map fun v => v.category).sum ≤ 8) (d : decode cc pc = .ok (.invokespecial idx, 3))
    (isC isR : List Nat) (hC : isC.map (fun i => ws[i]?) = wc.map some) (hCf : isC.filterMap (fun i => ws[i]?) = wc) (hRr : isR.map (fun i => ws[i]?) = wr.map some) (hnC : va_nd isC = true) (hnR : va_nd isR = true) (hdis : ∀ i ∈ isR, i ∉ isC) {k' n' : Nat} {ws' : (Nat → Nat) → va_W} {st' : List Value} (hk' : k + rm.cells = k') (hn' : n + rm.slots = n') (hws : ∀ q, wr ++ wc' q = ws' q) (hst' : res.toList ++ rest = st')
    (kk : ∀ q : Nat → Nat, Zd D Γ k' n' (ws' q) (pc + 3) lv st') : Zd D Γ k n ws pc lv st := by
  have kk : ∀ q : Nat → Nat, Zd D Γ (k + rm.cells) (n + rm.slots) (wr ++ wc' q) (pc + 3) lv (res.toList ++ rest) := fun q => by
    rw [hk', hn', hst', hws q]
    exact kk q
  intro H locs ls hP hD hS hl
  subst hnA
  subst hst
  have hPc := hP.sub (ws' := wc) isC hCf
  have hDc := hD.sub (ws' := wc) isC hnC hC
  exact g_back (rm := rm) (wc' := wc') C (As := .ref b :: As) (va_runI (Ts := zW) (nL := zg_n Γ) (bytes := bytes) (maxL := maxL) ⟨C.hx, C.hb, C.hml, C.ho, C.ht⟩ (hl0 ▸ hM H.size) (cwI As.length C.ht (zgood (x := .initialized "") [] (fun w hw => absurd hw List.not_mem_nil) hw5) rfl rfl rfl (C.ht _ hw4) (C.ht _ hw1) (C.ht _ hw2) hyn hd (by rw [C.hR]; exact hR)) ⟨Zpre.blind, fun U hU hW => ⟨rfl, by rw [hU], by rw [hU]; exact hPc, va_K.moved hW.alike C.hK, hDc.weaken (fun _ _ _ _ => trivial)⟩⟩ rfl rfl hl.1 rfl (lv_room hW) d (by rw [C.hR]; exact ⟨hk, hn⟩)) isC isR hC hRr hnR hdis hP hD hS hl kk
/-- a call of a nest mate's private constructor -/
theorem g_callIN (C : Zx D ca Γ cc own nL R) {l : Launch} (hl0 : zg_l Γ = l) {As : List Value} {b : Nat} {host : String} (hM : Zc l D ca y bytes maxL none rm (.ref b :: As) wc res wc') (hw1 : va_Nw (.methodLinkNest own idx y host) (zg_s Γ)) (hw2 : Cond.instanceMethod y ∈ zW) (hw4 : Cond.initialized y.cls ∈ zW) (hw5 : Cond.code y bytes maxL none ∈ zW) (hyn : y.name = "<init>")
    {nA : Nat} (hnA : As.length = nA) (hd : y.cls ≠ "java/lang/invoke/MethodHandle" ∧ y.cls ≠ "java/lang/invoke/VarHandle" ∧ (parseMethodDescriptor y.desc).map (fun d => d.parameters.length) = some nA) (hR : rm.frames + 1 ≤ R.frames ∧ 8 + (maxL + 11) + rm.locals ≤ R.locals) (hk : k + rm.cells ≤ R.cells) (hn : n + rm.slots ≤ R.slots)
    (hst : st = As.reverse ++ .ref b :: rest) (hW : (rest.map fun v => v.category).sum ≤ 8) (d : decode cc pc = .ok (.invokespecial idx, 3))
    (isC isR : List Nat) (hC : isC.map (fun i => ws[i]?) = wc.map some) (hCf : isC.filterMap (fun i => ws[i]?) = wc) (hRr : isR.map (fun i => ws[i]?) = wr.map some) (hnC : va_nd isC = true) (hnR : va_nd isR = true) (hdis : ∀ i ∈ isR, i ∉ isC) {k' n' : Nat} {ws' : (Nat → Nat) → va_W} {st' : List Value} (hk' : k + rm.cells = k') (hn' : n + rm.slots = n') (hws : ∀ q, wr ++ wc' q = ws' q) (hst' : res.toList ++ rest = st')
    (kk : ∀ q : Nat → Nat, Zd D Γ k' n' (ws' q) (pc + 3) lv st') : Zd D Γ k n ws pc lv st := by
  have kk : ∀ q : Nat → Nat, Zd D Γ (k + rm.cells) (n + rm.slots) (wr ++ wc' q) (pc + 3) lv (res.toList ++ rest) := fun q => by
    rw [hk', hn', hst', hws q]
    exact kk q
  intro H locs ls hP hD hS hl
  subst hnA
  subst hst
  have hPc := hP.sub (ws' := wc) isC hCf
  have hDc := hD.sub (ws' := wc) isC hnC hC
  exact g_back (rm := rm) (wc' := wc') C (As := .ref b :: As) (va_runIN (Ts := zW) (nL := zg_n Γ) (bytes := bytes) (maxL := maxL) ⟨C.hx, C.hb, C.hml, C.ho, C.ht⟩ (hl0 ▸ hM H.size) ⟨va_cnB As.length C.ht (zgood (x := .initialized "") [] (fun w hw => absurd hw List.not_mem_nil) hw5) rfl rfl rfl hw1 (C.ht _ hw4) hd (by rw [C.hR]; exact hR), hyn, C.ht _ hw2⟩ ⟨Zpre.blind, fun U hU hW => ⟨rfl, by rw [hU], by rw [hU]; exact hPc, va_K.moved hW.alike C.hK, hDc.weaken (fun _ _ _ _ => trivial)⟩⟩ rfl rfl hl.1 rfl (lv_room hW) d (by rw [C.hR]; exact ⟨hk, hn⟩)) isC isR hC hRr hnR hdis hP hD hS hl kk
end ZCALLI
