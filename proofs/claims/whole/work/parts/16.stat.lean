/-! the two tables of WheelHours$Law that nobody writes -/
def zLet : Nat → Int := fun j => [99, 98, 115, 116, 100, 101, 120, 114, 113, 121, 119].getD j 0
def zAtf : Nat → Int := fun j => [270, 45, 15, 30, 540, 600, 2, 660, 540, 3, 3360].getD j 0
def Zs (tL tA : Nat) (A : Nat → Prop) (U : State) : Prop := va_Z "WheelHours$Law" "LETTERS" "[C" (.ref tL) A U U.heap ∧ va_T .char tL 11 (fun j => .int (zI (zLet j))) A U U.heap ∧ va_Z "WheelHours$Law" "AT_FIRST" "[I" (.ref tA) A U U.heap ∧ va_X tA 11 (zA zAtf) U U.heap ∧ tA < U.heap.size ∧ ¬ A tA
theorem Zs.go {tL tA : Nat} {A B : Nat → Prop} {s U : State} {H : Heap} {locs : List Loc} (h : Zs tL tA A s) (hS : va_S A s.heap H locs) (hU : U.heap = H) (hvm : s.vm.Alike U.vm) (hB : ∀ q, B q → A q) : Zs tL tA B U := by
  obtain ⟨h1, h2, h3, h4, h5, h6⟩ := h
  have hk : ∀ a : Nat, a < s.heap.size → ¬ A a → H[a]? = s.heap[a]? := hS.2.1
  unfold Zs
  rw [hU]
  exact ⟨((h1.kept hk).moved hvm).narrow hB, ((h2.kept hk).moved hvm).narrow hB, ((h3.kept hk).moved hvm).narrow hB, (h4.kept (hk tA h5 h6)).moved hvm, Nat.lt_of_lt_of_le h5 hS.1, fun z => h6 (hB _ z)⟩
def Zpres (D : va_G) (ca : Nat → ClassId) (tL tA : Nat) (av : List Value) (wc : va_W) (sz : Nat) : Array Value → State → Prop := va_Pc av (fun U => U.heap.size = sz ∧ va_P D vwCl wc U.heap ∧ va_K D vwCl (zT ca) U ∧ va_D (fun _ => True) wc ∧ Zs tL tA (va_A wc sz) U)
def Zcs (l : Launch) (D : va_G) (ca : Nat → ClassId) (tL tA : Nat) (y : MethodName) (cc : ByteArray) (maxL : Nat) (ret : Option FieldType) (rm : Room) (av : List Value) (wc : va_W) (res : Option Value) (wc' : (Nat → Nat) → va_W) : Prop :=
  ∀ sz : Nat, Met l y (.code y cc maxL ret :: zW) rm (Zpres D ca tL tA av wc sz) (Zpost D ca (va_A wc sz) res wc') rm.cells rm.slots (va_A wc sz)
theorem Zpres.blind {D : va_G} {ca : Nat → ClassId} {tL tA : Nat} {av : List Value} {wc : va_W} {sz : Nat} : FrameBlind (Zpres D ca tL tA av wc sz) := fun a U g mk q => by
  obtain ⟨q0, q1, qP, qK, qD, qZ⟩ := q
  exact ⟨q0, q1, qP, va_K.moved (u := U) (U := U.calling g mk a) (Vm.Alike.refl U.vm) qK, qD, Zs.go (U := U.calling g mk a) qZ va_S.rf rfl (Vm.Alike.refl U.vm) (fun _ h => h)⟩
theorem ctr_ofs {l : Launch} {D : va_G} {ca : Nat → ClassId} {y : MethodName} {cc : ByteArray} {maxL : Nat} {ret : Option FieldType} {rm : Room} {av : List Value} {wc : va_W} {tL tA : Nat} {res : Option Value} {wc' : (Nat → Nat) → va_W} {lv : List (Nat × Value)}
    (hy : plainName y.cls = true) (hn : (lg_sl av).length ≤ maxL) (hv : lv_args 0 av = lv)
    (body : ∀ Γ : ZG, zg_l Γ = l → Zx D ca Γ cc y.cls maxL rm → Ze D ca Γ ret rm res wc' → (zg_t Γ).name = y.name → Zs tL tA (zg_A Γ) (zg_s Γ) → Zd D Γ 0 0 wc 0 lv []) : Zcs l D ca tL tA y cc maxL ret rm av wc res wc' := by
  intro sz
  refine Met.ofW (cc := cc) (maxL := maxL) (ret := ret) hy rfl ?_
  intro p e s m args below meth c s₁ B hml hv'
  obtain ⟨rfl, hsz, hP, hK, hD0, hZ⟩ := hv'
  subst hsz
  have hts := atoms_spec (ws := .code y cc maxL ret :: zW) B.pre
  have hD := hD0.self (sz := s.heap.size)
  have b := body (p, l, e, rm, s, m, av.toArray, below, meth, c, va_A wc s.heap.size, maxL, MQ below (Zpost D ca (va_A wc s.heap.size) res wc') av.toArray s rm.cells rm.slots (va_A wc s.heap.size)) rfl ⟨B.exec, B.bytes, hml, findClass_of_methodNamed B.named, fun w hw => hts w (List.mem_cons_of_mem _ hw), hK, fun q h => Or.inr h, rfl, rfl⟩ ⟨B.returns, B.notSynchronized, rfl⟩ (name_of_methodNamed B.named B.method).1 hZ
  have hl := lv_entry av (n := maxL) hn
  rw [lg_entry_eq]
  rw [hv] at hl
  exact b s.heap [] _ hP hD va_S.rf hl
section ZSTAT
variable {D : va_G} {ca : Nat → ClassId} {Γ : ZG} {cc : ByteArray} {own : String} {nL : Nat} {R rm : Room} {k n : Nat} {ws : va_W} {pc : Nat} {lv : List (Nat × Value)} {st rest : List Value} {wc wr : va_W} {res : Option Value} {wc' : (Nat → Nat) → va_W}
variable {y : MethodName} {bytes : ByteArray} {maxL : Nat} {ret : Option FieldType} {idx : Nat}
variable {tL tA : Nat} {ρ : Type} {r : ρ}
theorem g_callVs (C : Zx D ca Γ cc own nL R) {l : Launch} (hl0 : zg_l Γ = l) {As : List Value} {b : Nat} (hZ : Zs tL tA (zg_A Γ) (zg_s Γ)) (hM : Zcs l D ca tL tA y bytes maxL ret rm (.ref b :: As) wc res wc') (hw1 : Cond.methodLink own idx y ∈ zW) (hw2 : Cond.instanceMethod y ∈ zW) (hw3 : Cond.selects y.cls y y ∈ zW) (hw4 : Cond.initialized y.cls ∈ zW) (hw5 : Cond.code y bytes maxL ret ∈ zW)
    {nA : Nat} (hnA : As.length = nA) (hd : y.cls ≠ "java/lang/invoke/MethodHandle" ∧ y.cls ≠ "java/lang/invoke/VarHandle" ∧ (parseMethodDescriptor y.desc).map (fun d => d.parameters.length) = some nA) (hR : rm.frames + 1 ≤ R.frames ∧ 8 + (maxL + 11) + rm.locals ≤ R.locals) (hk : k + rm.cells ≤ R.cells) (hn : n + rm.slots ≤ R.slots)
    (hst : st = As.reverse ++ .ref b :: rest) (hW : (rest.map fun v => v.category).sum ≤ 8) (d : decode cc pc = .ok (.invokevirtual idx, 3))
    (qr ci : Nat) {fs : List Value} {cq : vw_C} (hcq : vwCl[ci]? = some cq) (hcn : cq.1 = y.cls) (he : ws[qr]? = some (b, .inr (ci, fs)))
    (isC isR : List Nat) (hC : isC.map (fun i => ws[i]?) = wc.map some) (hCf : isC.filterMap (fun i => ws[i]?) = wc) (hRr : isR.map (fun i => ws[i]?) = wr.map some) (hnC : va_nd isC = true) (hnR : va_nd isR = true) (hdis : ∀ i ∈ isR, i ∉ isC) {k' n' : Nat} {ws' : (Nat → Nat) → va_W} {st' : List Value} (hk' : k + rm.cells = k') (hn' : n + rm.slots = n') (hws : ∀ q, wr ++ wc' q = ws' q) (hst' : res.toList ++ rest = st')
    (kk : ∀ q : Nat → Nat, Zd D Γ k' n' (ws' q) (pc + 3) lv st') : Zd D Γ k n ws pc lv st := by
  have kk : ∀ q : Nat → Nat, Zd D Γ (k + rm.cells) (n + rm.slots) (wr ++ wc' q) (pc + 3) lv (res.toList ++ rest) := fun q => by
    rw [hk', hn', hst', hws q]
    exact kk q
  intro H locs ls hP hD hS hl
  subst hnA
  subst hst
  have hPc := hP.sub (ws' := wc) isC hCf
  have hDc := hD.sub (ws' := wc) isC hnC hC
  refine g_back (rm := rm) (wc' := wc') C (As := .ref b :: As) (va_runV (Ts := zW) (nL := zg_n Γ) (C := y.cls) (bytes := bytes) (maxL := maxL) (ret := ret) ⟨C.hx, C.hb, C.hml, C.ho, C.ht⟩ (hl0 ▸ hM H.size) (cwV As.length C.ht (zgood (x := .initialized "") [.methodLink own idx y, .instanceMethod y, .selects y.cls y y, .initialized y.cls] (fun w hw => ?_) hw5) rfl rfl rfl ⟨rfl, hd⟩ (by rw [C.hR]; exact hR)) ⟨Zpres.blind, ?_, fun U hU hW => ⟨rfl, by rw [hU], by rw [hU]; exact hPc, va_K.moved hW.alike C.hK, hDc.weaken (fun _ _ _ _ => trivial), hZ.go hS hU hW.alike (va_free (wc := wc) hD hS C.hA isC hC)⟩⟩ rfl rfl hl.1 rfl (lv_room hW) d (by rw [C.hR]; exact ⟨hk, hn⟩)) isC isR hC hRr hnR hdis hP hD hS hl kk
  · simp only [List.mem_cons, List.not_mem_nil, or_false] at hw
    rcases hw with rfl | rfl | rfl | rfl <;> assumption
  · obtain ⟨cell, c1, c2, c3⟩ := va_recv C.hK hP hcq he
    exact ⟨cell, c1, c2, by rw [← hcn]; exact c3⟩
theorem g_callSs (C : Zx D ca Γ cc own nL R) {l : Launch} (hl0 : zg_l Γ = l) {As : List Value} (hZ : Zs tL tA (zg_A Γ) (zg_s Γ)) (hM : Zcs l D ca tL tA y bytes maxL ret rm As wc res wc') (hw1 : Cond.methodLink own idx y ∈ zW) (hw2 : Cond.static y ∈ zW) (hw4 : Cond.initialized y.cls ∈ zW) (hw5 : Cond.code y bytes maxL ret ∈ zW)
    {nA : Nat} (hnA : As.length = nA) (hd : y.cls ≠ "java/lang/invoke/MethodHandle" ∧ y.cls ≠ "java/lang/invoke/VarHandle" ∧ (parseMethodDescriptor y.desc).map (fun d => d.parameters.length) = some nA) (hR : rm.frames + 1 ≤ R.frames ∧ 8 + (maxL + 11) + rm.locals ≤ R.locals) (hk : k + rm.cells ≤ R.cells) (hn : n + rm.slots ≤ R.slots)
    (hst : st = As.reverse ++ rest) (hW : (rest.map fun v => v.category).sum ≤ 8) (d : decode cc pc = .ok (.invokestatic idx, 3))
    (isC isR : List Nat) (hC : isC.map (fun i => ws[i]?) = wc.map some) (hCf : isC.filterMap (fun i => ws[i]?) = wc) (hRr : isR.map (fun i => ws[i]?) = wr.map some) (hnC : va_nd isC = true) (hnR : va_nd isR = true) (hdis : ∀ i ∈ isR, i ∉ isC) {k' n' : Nat} {ws' : (Nat → Nat) → va_W} {st' : List Value} (hk' : k + rm.cells = k') (hn' : n + rm.slots = n') (hws : ∀ q, wr ++ wc' q = ws' q) (hst' : res.toList ++ rest = st')
    (kk : ∀ q : Nat → Nat, Zd D Γ k' n' (ws' q) (pc + 3) lv st') : Zd D Γ k n ws pc lv st := by
  have kk : ∀ q : Nat → Nat, Zd D Γ (k + rm.cells) (n + rm.slots) (wr ++ wc' q) (pc + 3) lv (res.toList ++ rest) := fun q => by
    rw [hk', hn', hst', hws q]
    exact kk q
  intro H locs ls hP hD hS hl
  subst hnA
  subst hst
  have hPc := hP.sub (ws' := wc) isC hCf
  have hDc := hD.sub (ws' := wc) isC hnC hC
  refine g_back (rm := rm) (wc' := wc') C (As := As) (va_runS (Ts := zW) (nL := zg_n Γ) (bytes := bytes) (maxL := maxL) (ret := ret) ⟨C.hx, C.hb, C.hml, C.ho, C.ht⟩ (hl0 ▸ hM H.size) (va_cwS As.length C.ht (zgood (x := .initialized "") [.methodLink own idx y, .static y, .initialized y.cls] (fun w hw => ?_) hw5) rfl rfl rfl hd (by rw [C.hR]; exact hR)) ⟨Zpres.blind, fun U hU hW => ⟨rfl, by rw [hU], by rw [hU]; exact hPc, va_K.moved hW.alike C.hK, hDc.weaken (fun _ _ _ _ => trivial), hZ.go hS hU hW.alike (va_free (wc := wc) hD hS C.hA isC hC)⟩⟩ rfl rfl hl.1 rfl (lv_room hW) d (by rw [C.hR]; exact ⟨hk, hn⟩)) isC isR hC hRr hnR hdis hP hD hS hl kk
  simp only [List.mem_cons, List.not_mem_nil, or_false] at hw
  rcases hw with rfl | rfl | rfl <;> assumption
theorem g_callINs (C : Zx D ca Γ cc own nL R) {l : Launch} (hl0 : zg_l Γ = l) {As : List Value} {b : Nat} {host : String} (hZ : Zs tL tA (zg_A Γ) (zg_s Γ)) (hM : Zcs l D ca tL tA y bytes maxL none rm (.ref b :: As) wc res wc') (hw1 : va_Nw (.methodLinkNest own idx y host) (zg_s Γ)) (hw2 : Cond.instanceMethod y ∈ zW) (hw4 : Cond.initialized y.cls ∈ zW) (hw5 : Cond.code y bytes maxL none ∈ zW) (hyn : y.name = "<init>")
    {nA : Nat} (hnA : As.length = nA) (hd : y.cls ≠ "java/lang/invoke/MethodHandle" ∧ y.cls ≠ "java/lang/invoke/VarHandle" ∧ (parseMethodDescriptor y.desc).map (fun d => d.parameters.length) = some nA) (hR : rm.frames + 1 ≤ R.frames ∧ 8 + (maxL + 11) + rm.locals ≤ R.locals) (hk : k + rm.cells ≤ R.cells) (hn : n + rm.slots ≤ R.slots)
    (hst : st = As.reverse ++ .ref b :: rest) (hW : (rest.map fun v => v.category).sum ≤ 8) (d : decode cc pc = .ok (.invokespecial idx, 3))
    (isC isR : List Nat) (hC : isC.map (fun i => ws[i]?) = wc.map some) (hCf : isC.filterMap (fun i => ws[i]?) = wc) (hRr : isR.map (fun i => ws[i]?) = wr.map some) (hnC : va_nd isC = true) (hnR : va_nd isR = true) (hdis : ∀ i ∈ isR, i ∉ isC) {k' n' : Nat} {ws' : (Nat → Nat) → va_W} {st' : List Value} (hk' : k + rm.cells = k') (hn' : n + rm.slots = n') (hws : ∀ q, wr ++ wc' q = ws' q) (hst' : res.toList ++ rest = st')
    (kk : ∀ q : Nat → Nat, Zd D Γ k' n' (ws' q) (pc + 3) lv st') : Zd D Γ k n ws pc lv st := by
  have kk : ∀ q : Nat → Nat, Zd D Γ (k + rm.cells) (n + rm.slots) (wr ++ wc' q) (pc + 3) lv (res.toList ++ rest) := fun q => by
    rw [hk', hn', hst', hws q]
    exact kk q
  intro H locs ls hP hD hS hl
  subst hnA
  subst hst
  have hPc := hP.sub (ws' := wc) isC hCf
  have hDc := hD.sub (ws' := wc) isC hnC hC
  exact g_back (rm := rm) (wc' := wc') C (As := .ref b :: As) (va_runIN (Ts := zW) (nL := zg_n Γ) (bytes := bytes) (maxL := maxL) ⟨C.hx, C.hb, C.hml, C.ho, C.ht⟩ (hl0 ▸ hM H.size) ⟨va_cnB As.length C.ht (zgood (x := .initialized "") [] (fun w hw => absurd hw List.not_mem_nil) hw5) rfl rfl rfl hw1 (C.ht _ hw4) hd (by rw [C.hR]; exact hR), hyn, C.ht _ hw2⟩ ⟨Zpres.blind, fun U hU hW => ⟨rfl, by rw [hU], by rw [hU]; exact hPc, va_K.moved hW.alike C.hK, hDc.weaken (fun _ _ _ _ => trivial), hZ.go hS hU hW.alike (va_free (wc := wc) hD hS C.hA isC hC)⟩⟩ rfl rfl hl.1 rfl (lv_room hW) d (by rw [C.hR]; exact ⟨hk, hn⟩)) isC isR hC hRr hnR hdis hP hD hS hl kk
theorem g_callIs (C : Zx D ca Γ cc own nL R) {l : Launch} (hl0 : zg_l Γ = l) {As : List Value} {b : Nat} (hZ : Zs tL tA (zg_A Γ) (zg_s Γ)) (hM : Zcs l D ca tL tA y bytes maxL none rm (.ref b :: As) wc res wc') (hw1 : Cond.methodLink own idx y ∈ zW) (hw2 : Cond.instanceMethod y ∈ zW) (hw4 : Cond.initialized y.cls ∈ zW) (hw5 : Cond.code y bytes maxL none ∈ zW) (hyn : y.name = "<init>")
    {nA : Nat} (hnA : As.length = nA) (hd : y.cls ≠ "java/lang/invoke/MethodHandle" ∧ y.cls ≠ "java/lang/invoke/VarHandle" ∧ (parseMethodDescriptor y.desc).map (fun d => d.parameters.length) = some nA) (hR : rm.frames + 1 ≤ R.frames ∧ 8 + (maxL + 11) + rm.locals ≤ R.locals) (hk : k + rm.cells ≤ R.cells) (hn : n + rm.slots ≤ R.slots)
    (hst : st = As.reverse ++ .ref b :: rest) (hW : (rest.map fun v => v.category).sum ≤ 8) (d : decode cc pc = .ok (.invokespecial idx, 3))
    (isC isR : List Nat) (hC : isC.map (fun i => ws[i]?) = wc.map some) (hCf : isC.filterMap (fun i => ws[i]?) = wc) (hRr : isR.map (fun i => ws[i]?) = wr.map some) (hnC : va_nd isC = true) (hnR : va_nd isR = true) (hdis : ∀ i ∈ isR, i ∉ isC) {k' n' : Nat} {ws' : (Nat → Nat) → va_W} {st' : List Value} (hk' : k + rm.cells = k') (hn' : n + rm.slots = n') (hws : ∀ q, wr ++ wc' q = ws' q) (hst' : res.toList ++ rest = st')
    (kk : ∀ q : Nat → Nat, Zd D Γ k' n' (ws' q) (pc + 3) lv st') : Zd D Γ k n ws pc lv st := by
  have kk : ∀ q : Nat → Nat, Zd D Γ (k + rm.cells) (n + rm.slots) (wr ++ wc' q) (pc + 3) lv (res.toList ++ rest) := fun q => by
    rw [hk', hn', hst', hws q]
    exact kk q
  intro H locs ls hP hD hS hl
  subst hnA
  subst hst
  have hPc := hP.sub (ws' := wc) isC hCf
  have hDc := hD.sub (ws' := wc) isC hnC hC
  exact g_back (rm := rm) (wc' := wc') C (As := .ref b :: As) (va_runI (Ts := zW) (nL := zg_n Γ) (bytes := bytes) (maxL := maxL) ⟨C.hx, C.hb, C.hml, C.ho, C.ht⟩ (hl0 ▸ hM H.size) (cwI As.length C.ht (zgood (x := .initialized "") [] (fun w hw => absurd hw List.not_mem_nil) hw5) rfl rfl rfl (C.ht _ hw4) (C.ht _ hw1) (C.ht _ hw2) hyn hd (by rw [C.hR]; exact hR)) ⟨Zpres.blind, fun U hU hW => ⟨rfl, by rw [hU], by rw [hU]; exact hPc, va_K.moved hW.alike C.hK, hDc.weaken (fun _ _ _ _ => trivial), hZ.go hS hU hW.alike (va_free (wc := wc) hD hS C.hA isC hC)⟩⟩ rfl rfl hl.1 rfl (lv_room hW) d (by rw [C.hR]; exact ⟨hk, hn⟩)) isC isR hC hRr hnR hdis hP hD hS hl kk
theorem g_getsL (C : Zx D ca Γ cc own nL R) (hZ : Zs tL tA (zg_A Γ) (zg_s Γ)) (hw : Cond.fieldLink own idx "WheelHours$Law" "LETTERS" "[C" ∈ zW) (d : decode cc pc = .ok (.getstatic idx, 3)) (kk : Zd D Γ k n ws (pc + 3) lv (.ref tL :: st)) : Zd D Γ k n ws pc lv st := by
  intro H locs ls hP hD hS hl
  exact va_gets C.hx C.hb hZ.1 hS C.ho (C.ht _ hw) (fun _ h => h) d (kk H locs ls hP hD hS hl)
theorem g_getsA (C : Zx D ca Γ cc own nL R) (hZ : Zs tL tA (zg_A Γ) (zg_s Γ)) (hw : Cond.fieldLink own idx "WheelHours$Law" "AT_FIRST" "[I" ∈ zW) (d : decode cc pc = .ok (.getstatic idx, 3)) (kk : Zd D Γ k n ws (pc + 3) lv (.ref tA :: st)) : Zd D Γ k n ws pc lv st := by
  intro H locs ls hP hD hS hl
  exact va_gets C.hx C.hb hZ.2.2.1 hS C.ho (C.ht _ hw) (fun _ h => h) d (kk H locs ls hP hD hS hl)
theorem g_lenL (C : Zx D ca Γ cc own nL R) (hZ : Zs tL tA (zg_A Γ) (zg_s Γ)) (d : decode cc pc = .ok (.arraylength, 1)) (kk : Zd D Γ k n ws (pc + 1) lv (.int (zI 11) :: st)) : Zd D Γ k n ws pc lv (.ref tL :: st) := by
  intro H locs ls hP hD hS hl
  exact va_tlen C.hx C.hb hZ.2.1 hS rfl d (kk H locs ls hP hD hS hl)
theorem g_lenA (C : Zx D ca Γ cc own nL R) (hZ : Zs tL tA (zg_A Γ) (zg_s Γ)) (d : decode cc pc = .ok (.arraylength, 1)) (kk : Zd D Γ k n ws (pc + 1) lv (.int (zI 11) :: st)) : Zd D Γ k n ws pc lv (.ref tA :: st) := by
  intro H locs ls hP hD hS hl
  exact va_slen C.hx C.hb hZ.2.2.2.1 hZ.2.2.2.2.1 hZ.2.2.2.2.2 hS d (kk H locs ls hP hD hS hl)
theorem g_caldL (C : Zx D ca Γ cc own nL R) (hZ : Zs tL tA (zg_A Γ) (zg_s Γ)) {x : Int} {F : Option ρ} (d : decode cc pc = .ok (.caload, 1)) (hf : (if 0 ≤ x ∧ x < 11 then F else none) = some r) (kk : F = some r → Zd D Γ k n ws (pc + 1) lv (.int (zI (zLet x.toNat)) :: st)) : Zd D Γ k n ws pc lv (.int (zI x) :: .ref tL :: st) := by
  intro H locs ls hP hD hS hl
  obtain ⟨hc, hf2⟩ := zck hf
  have hR : zR x := by omega
  refine va_tc C.hx C.hb hZ.2.1 hS (zI_vin (n := 11) hc.1 hc.2 hR) (by rw [zI_clamp hc.1 hR]) d ?_
  exact kk hf2 H locs ls hP hD hS hl
theorem g_copyA (C : Zx D ca Γ cc own nL R) (hZ : Zs tL tA (zg_A Γ) (zg_s Γ)) {sp dp cn N1 : Int} {a1 n1 i : Nat} {g : Nat → Int} {F : Option ρ} {ws' : va_W} (hw1 : Cond.methodLink own i arraycopyName ∈ zW) (hfr : 1 ≤ R.frames) (hlo : (st.map fun v => v.category).sum + (nativeFrameWords "java/lang/System" "arraycopy" 5 + 11) ≤ R.locals) (q1 : Nat) (he1 : ws[q1]? = some (a1, .inl (ca 0, n1, .inl (zA g)))) (hN1 : N1 = (n1 : Int)) (hb1 : n1 < 2147483648) (hw : ws.set q1 (a1, .inl (ca 0, n1, .inl (zA (zcp zAtf g sp.toNat dp.toNat cn.toNat)))) = ws') (d : decode cc pc = .ok (.invokestatic i, 3)) (hf : (if ((0 : Int) ≤ sp ∧ (0 : Int) ≤ dp ∧ (0 : Int) ≤ cn) ∧ sp + cn ≤ 11 ∧ dp + cn ≤ N1 then F else none) = some r) (kk : F = some r → Zd D Γ k n ws' (pc + 3) lv st) : Zd D Γ k n ws pc lv (.int (zI cn) :: .int (zI dp) :: .ref a1 :: .int (zI sp) :: .ref tA :: st) := by
  intro H locs ls hP hD hS hl
  subst hN1
  obtain ⟨⟨⟨h1, h2, h3⟩, h4, h5⟩, hf2⟩ := zck hf
  have r1 : zR sp := by omega
  have r2 : zR dp := by omega
  have r3 : zR cn := by omega
  have ng : ∀ {x : Int}, 0 ≤ x → zR x → ¬ zI x < 0 := fun h0 hr q => by
    have := (zI_lt hr (y := 0) (by decide)).mp q
    omega
  refine va_copyx C.hx C.hb (by rw [C.hml, hl.1]) C.ho (C.ht _ hw1) (C.ht _ wna_copy) (C.ht _ wst_copy) (C.ht _ win_RJ10) C.hK hP hD hS hZ.2.2.2.1 hZ.2.2.2.2.1 hZ.2.2.2.2.2 q1 0 he1 rfl (ng h1 r1) (ng h2 r2) (ng h3 r3) (by rw [zI_clamp h1 r1, zI_clamp h3 r3]; omega) (by rw [zI_clamp h2 r2, zI_clamp h3 r3]; omega) (by rw [C.hR]; exact hfr) (by rw [C.hR]; exact hlo) d (fun H locs hP hD hS => ?_)
  rw [zI_clamp h1 r1, zI_clamp h2 r2, zI_clamp h3 r3, zA_cpy] at hP hD
  subst hw
  exact kk hf2 H locs ls hP hD hS hl
end ZSTAT
