/-! contracts: a method over a world wc, from the values av; its answer res, the world wc' behind it (q: the addresses of cells that it made) -/
def Zpre (D : va_G) (ca : Nat → ClassId) (av : List Value) (wc : va_W) (sz : Nat) : Array Value → State → Prop := va_Pc av (fun U => U.heap.size = sz ∧ va_P D vwCl wc U.heap ∧ va_K D vwCl (zT ca) U ∧ va_D (fun _ => True) wc)
def Zpost (D : va_G) (ca : Nat → ClassId) (A : Nat → Prop) (res : Option Value) (wc' : (Nat → Nat) → va_W) : Array Value → State → Outcome → State → Prop := fun _ st oc t => oc = .returned res ∧ (∃ q : Nat → Nat, va_P D vwCl (wc' q) t.heap ∧ va_K D vwCl (zT ca) t ∧ va_D A (wc' q)) ∧ va_F A st t
def Zc (l : Launch) (D : va_G) (ca : Nat → ClassId) (y : MethodName) (cc : ByteArray) (maxL : Nat) (ret : Option FieldType) (rm : Room) (av : List Value) (wc : va_W) (res : Option Value) (wc' : (Nat → Nat) → va_W) : Prop :=
  ∀ sz : Nat, Met l y (.code y cc maxL ret :: zW) rm (Zpre D ca av wc sz) (Zpost D ca (va_A wc sz) res wc') rm.cells rm.slots (va_A wc sz)
theorem Zpre.blind {D : va_G} {ca : Nat → ClassId} {av : List Value} {wc : va_W} {sz : Nat} : FrameBlind (Zpre D ca av wc sz) := fun a U g mk q => by
  obtain ⟨q0, q1, qP, qK, qD⟩ := q
  exact ⟨q0, q1, qP, va_K.moved (u := U) (U := U.calling g mk a) (Vm.Alike.refl U.vm) qK, qD⟩
/-- what is known of the end of a method's walk -/
def Ze (D : va_G) (ca : Nat → ClassId) (Γ : ZG) (ret : Option FieldType) (rm : Room) (res : Option Value) (wc' : (Nat → Nat) → va_W) : Prop :=
  (zg_t Γ).sig.returnType = ret ∧ (zg_t Γ).locks = false ∧ zg_Q Γ = MQ (zg_b Γ) (Zpost D ca (zg_A Γ) res wc') (zg_a Γ) (zg_s Γ) rm.cells rm.slots (zg_A Γ)
theorem ctr_of {l : Launch} {D : va_G} {ca : Nat → ClassId} {y : MethodName} {cc : ByteArray} {maxL : Nat} {ret : Option FieldType} {rm : Room} {av : List Value} {wc : va_W} {res : Option Value} {wc' : (Nat → Nat) → va_W} {lv : List (Nat × Value)}
    (hy : plainName y.cls = true) (hn : (lg_sl av).length ≤ maxL) (hv : lv_args 0 av = lv)
    (body : ∀ Γ : ZG, zg_l Γ = l → Zx D ca Γ cc y.cls maxL rm → Ze D ca Γ ret rm res wc' → (zg_t Γ).name = y.name → Zd D Γ 0 0 wc 0 lv []) : Zc l D ca y cc maxL ret rm av wc res wc' := by
  intro sz
  refine Met.ofW (cc := cc) (maxL := maxL) (ret := ret) hy rfl ?_
  intro p e s m args below meth c s₁ B hml hv'
  obtain ⟨rfl, hsz, hP, hK, hD0⟩ := hv'
  subst hsz
  have hts := atoms_spec (ws := .code y cc maxL ret :: zW) B.pre
  have hD := hD0.self (sz := s.heap.size)
  have b := body (p, l, e, rm, s, m, av.toArray, below, meth, c, va_A wc s.heap.size, maxL, MQ below (Zpost D ca (va_A wc s.heap.size) res wc') av.toArray s rm.cells rm.slots (va_A wc s.heap.size)) rfl ⟨B.exec, B.bytes, hml, findClass_of_methodNamed B.named, fun w hw => hts w (List.mem_cons_of_mem _ hw), hK, fun q h => Or.inr h, rfl, rfl⟩ ⟨B.returns, B.notSynchronized, rfl⟩ (name_of_methodNamed B.named B.method).1
  have hl := lv_entry av (n := maxL) hn
  rw [lg_entry_eq]
  rw [hv] at hl
  exact b s.heap [] _ hP hD va_S.rf hl
section ZRET
variable {D : va_G} {ca : Nat → ClassId} {Γ : ZG} {cc : ByteArray} {own : String} {nL : Nat} {R rm : Room} {k n : Nat} {ws : va_W} {pc : Nat} {lv : List (Nat × Value)} {st : List Value} {wc' : (Nat → Nat) → va_W}
theorem g_end (C : Zx D ca Γ cc own nL R) {H : Heap} {locs : List Loc} {res : Option Value} (qa : Nat → Nat) (is : List Nat) (hn : va_nd is = true) (hw : is.filterMap (fun i => ws[i]?) = wc' qa) (hwm : is.map (fun i => ws[i]?) = (wc' qa).map some)
    (hP : va_P D vwCl ws H) (hD : va_D (zg_A Γ) ws) (hS : va_S (zg_A Γ) (zg_s Γ).heap H locs) : ∀ t : State, t.heap = H → (zg_s Γ).WarmedH t.vm → Zpost D ca (zg_A Γ) res wc' (zg_a Γ) (zg_s Γ) (.returned res) t :=
  fun t ht hW => ⟨rfl, ⟨qa, by rw [ht]; exact hP.sub is hw, va_K.moved hW.alike C.hK, hD.sub is hn hwm⟩, hS.F ht⟩
variable {ρ : Type} {res : ρ → Option Value} {post : ρ → (Nat → Nat) → va_W} {Ro v : ρ}
theorem g_iret (C : Zx D ca Γ cc own nL R) {x : Int} (hf : some v = some Ro) (E : Ze D ca Γ (some .int) rm (res Ro) (post Ro)) (hres : res v = some (.int (zI x))) (qa : Nat → Nat) (is : List Nat) (hn : va_nd is = true) (hw : is.filterMap (fun i => ws[i]?) = post v qa) (hwm : is.map (fun i => ws[i]?) = (post v qa).map some) (h1 : k ≤ rm.cells) (h2 : n ≤ rm.slots)
    (d : decode cc pc = .ok (.ireturn, 1)) : Zd D Γ k n ws pc lv [.int (zI x)] := by
  cases hf
  rw [hres] at E
  intro H locs ls hP hD hS hl
  refine W.widen h1 h2 ?_
  rw [E.2.2]
  exact W.iret C.hx C.hb E.1 (g_end C qa is hn hw hwm hP hD hS) hS.2.2 d (hlocks := E.2.1)
theorem g_zret (C : Zx D ca Γ cc own nL R) {x : Int} (hf : some v = some Ro) (E : Ze D ca Γ (some .boolean) rm (res Ro) (post Ro)) (hx : narrow .boolean (.int (zI x)) = .int (zI x)) (hres : res v = some (.int (zI x))) (qa : Nat → Nat) (is : List Nat) (hn : va_nd is = true) (hw : is.filterMap (fun i => ws[i]?) = post v qa) (hwm : is.map (fun i => ws[i]?) = (post v qa).map some) (h1 : k ≤ rm.cells) (h2 : n ≤ rm.slots)
    (d : decode cc pc = .ok (.ireturn, 1)) : Zd D Γ k n ws pc lv [.int (zI x)] := by
  cases hf
  rw [hres] at E
  intro H locs ls hP hD hS hl
  refine W.widen h1 h2 ?_
  rw [E.2.2]
  exact W.zret C.hx C.hb E.1 hx (g_end C qa is hn hw hwm hP hD hS) hS.2.2 d (hlocks := E.2.1)
theorem g_lret (C : Zx D ca Γ cc own nL R) {x : Int} (hf : some v = some Ro) (E : Ze D ca Γ (some .long) rm (res Ro) (post Ro)) (hres : res v = some (.long (zJ x))) (qa : Nat → Nat) (is : List Nat) (hn : va_nd is = true) (hw : is.filterMap (fun i => ws[i]?) = post v qa) (hwm : is.map (fun i => ws[i]?) = (post v qa).map some) (h1 : k ≤ rm.cells) (h2 : n ≤ rm.slots)
    (d : decode cc pc = .ok (.lreturn, 1)) : Zd D Γ k n ws pc lv [.long (zJ x)] := by
  cases hf
  rw [hres] at E
  intro H locs ls hP hD hS hl
  refine W.widen h1 h2 ?_
  rw [E.2.2]
  exact W.lret C.hx C.hb E.1 (g_end C qa is hn hw hwm hP hD hS) hS.2.2 d (hlocks := E.2.1)
theorem g_vret (C : Zx D ca Γ cc own nL R) (hf : some v = some Ro) (E : Ze D ca Γ none rm (res Ro) (post Ro)) (hres : res v = none) (qa : Nat → Nat) (is : List Nat) (hn : va_nd is = true) (hw : is.filterMap (fun i => ws[i]?) = post v qa) (hwm : is.map (fun i => ws[i]?) = (post v qa).map some) (h1 : k ≤ rm.cells) (h2 : n ≤ rm.slots)
    (d : decode cc pc = .ok (.return_, 1)) : Zd D Γ k n ws pc lv [] := by
  cases hf
  rw [hres] at E
  intro H locs ls hP hD hS hl
  refine W.widen h1 h2 ?_
  rw [E.2.2]
  exact W.vret C.hx C.hb E.1 (g_end C qa is hn hw hwm hP hD hS) hS.2.2 d (hlocks := E.2.1)
theorem g_aret (C : Zx D ca Γ cc own nL R) {x : Value} {cn : String} (hf : some v = some Ro) (E : Ze D ca Γ (some (.object cn)) rm (res Ro) (post Ro)) (hv : x = .null ∨ ∃ a, x = .ref a) (hres : res v = some x) (qa : Nat → Nat) (is : List Nat) (hn : va_nd is = true) (hw : is.filterMap (fun i => ws[i]?) = post v qa) (hwm : is.map (fun i => ws[i]?) = (post v qa).map some) (h1 : k ≤ rm.cells) (h2 : n ≤ rm.slots)
    (d : decode cc pc = .ok (.areturn, 1)) : Zd D Γ k n ws pc lv [x] := by
  cases hf
  rw [hres] at E
  intro H locs ls hP hD hS hl
  refine W.widen h1 h2 ?_
  rw [E.2.2]
  exact W.aret C.hx C.hb E.1 (Or.inl ⟨cn, rfl⟩) hv (g_end C qa is hn hw hwm hP hD hS) hS.2.2 d (hlocks := E.2.1)
end ZRET
/-! calls -/
theorem zgood {x : Cond} {y : MethodName} {cc : ByteArray} {maxL : Nat} {ret : Option FieldType} (more : List Cond) (hm : ∀ w ∈ more, w ∈ zW) (hc : Cond.code y cc maxL ret ∈ zW) : GoodIn zW (more ++ (.code y cc maxL ret :: zW)) := by
  have g : ∀ w ∈ zW, w ∈ zW ∧ ((w.onTables && w.keeps) = true ∨ ∃ ty, w = .arrayClass ty) := fun w hw => ⟨hw, good_of_word (List.mem_filter.mp hw).2⟩
  intro w hw
  rcases List.mem_append.mp hw with h | h
  · exact g w (hm w h)
  · rcases List.mem_cons.mp h with h | h
    · rw [h]; exact g _ hc
    · exact g w h
section ZCALL
variable {D : va_G} {ca : Nat → ClassId} {Γ : ZG} {cc : ByteArray} {own : String} {nL : Nat} {R rm : Room} {k n : Nat} {ws : va_W} {pc : Nat} {lv : List (Nat × Value)} {st rest : List Value} {wc wr : va_W} {res : Option Value} {wc' : (Nat → Nat) → va_W}
variable {y : MethodName} {bytes : ByteArray} {maxL : Nat} {ret : Option FieldType} {idx : Nat}
/-- behind a call: the caller's other cells and the callee's world -/
theorem g_back (C : Zx D ca Γ cc own nL R) {As : List Value} {ls : Array Slot} {H : Heap} {locs : List Loc}
    (hr : va_Run (zg_p Γ) (zg_l Γ) (zg_e Γ) (zg_R Γ) (zg_s Γ) (zg_m Γ) (zg_a Γ) (zg_b Γ) (zg_t Γ) (zg_c Γ) H locs k n rm.cells rm.slots (F0 (zg_m Γ) pc ls st) rest (Zpost D ca (va_A wc H.size) res wc' As.toArray) (va_A wc H.size))
    (isC isR : List Nat) (hC : isC.map (fun i => ws[i]?) = wc.map some) (hRr : isR.map (fun i => ws[i]?) = wr.map some) (hnR : va_nd isR = true) (hdis : ∀ i ∈ isR, i ∉ isC)
    (hP : va_P D vwCl ws H) (hD : va_D (zg_A Γ) ws) (hS : va_S (zg_A Γ) (zg_s Γ).heap H locs) (hl : lv_has ls (zg_n Γ) lv)
    (kk : ∀ q : Nat → Nat, Zd D Γ (k + rm.cells) (n + rm.slots) (wr ++ wc' q) (pc + 3) lv (res.toList ++ rest)) : ZW Γ H locs k n (F0 (zg_m Γ) pc ls st) := by
  have hFc := va_free (wc := wc) hD hS C.hA isC hC
  intro T hT X
  obtain ⟨v, st₀, t, T', L, h0, X', hL, e1, e2, ⟨hv, ⟨q, hP1, hK1, hD1⟩, hz, hk⟩, stp⟩ := hr T hT X
  cases hv
  rw [h0] at hz hk
  rw [← e1] at hP1 hz hk
  obtain ⟨hP2, hD2⟩ := va_join hP hD isC isR hC hRr hnR hdis hk hFc hP1 hD1
  obtain ⟨t2, a1, b1⟩ := kk q T'.heap (locs ++ L) ls hP2 hD2 ⟨Nat.le_trans hS.1 hz, fun x h1 h2 => by
      rw [hk x (Nat.lt_of_lt_of_le h1 hS.1) (fun z => h2 (hFc x z))]
      exact hS.2.1 x h1 h2, fun x hx => by
      rcases List.mem_append.mp hx with h | h
      · exact hS.2.2 x h
      · exact hFc _ (hL x h)⟩ hl T' rfl X'
  exact ⟨t2, stp t2 a1, b1⟩
/-- a call of an instance method of the cell at place qr of the world -/
theorem g_callV (C : Zx D ca Γ cc own nL R) {l : Launch} (hl0 : zg_l Γ = l) {As : List Value} {b : Nat} (hM : Zc l D ca y bytes maxL ret rm (.ref b :: As) wc res wc') (hw1 : Cond.methodLink own idx y ∈ zW) (hw2 : Cond.instanceMethod y ∈ zW) (hw3 : Cond.selects y.cls y y ∈ zW) (hw4 : Cond.initialized y.cls ∈ zW) (hw5 : Cond.code y bytes maxL ret ∈ zW)
    {nA : Nat} (hnA : As.length = nA) (hd : y.cls ≠ "java/lang/invoke/MethodHandle" ∧ y.cls ≠ "java/lang/invoke/VarHandle" ∧ (parseMethodDescriptor y.desc).map (fun d => d.parameters.length) = some nA) (hR : rm.frames + 1 ≤ R.frames ∧ 8 + (maxL + 11) + rm.locals ≤ R.locals) (hk : k + rm.cells ≤ R.cells) (hn : n + rm.slots ≤ R.slots)
    (hst : st = As.reverse ++ .ref b :: rest) (hW : (rest.map fun v => v.category).sum ≤ 8) (d : decode cc pc = .ok (.invokevirtual idx, 3))
    (qr ci : Nat) {fs : List Value} {cq : vw_C} (hcq : vwCl[ci]? = some cq) (hcn : cq.1 = y.cls) (he : ws[qr]? = some (b, .inr (ci, fs)))
    (isC isR : List Nat) (hC : isC.map (fun i => ws[i]?) = wc.map some) (hCf : isC.filterMap (fun i => ws[i]?) = wc) (hRr : isR.map (fun i => ws[i]?) = wr.map some) (hnC : va_nd isC = true) (hnR : va_nd isR = true) (hdis : ∀ i ∈ isR, i ∉ isC) {k' n' : Nat} {ws' : (Nat → Nat) → va_W} {st' : List Value} (hk' : k + rm.cells = k') (hn' : n + rm.slots = n') (hws : ∀ q, wr ++ wc' q = ws' q) (hst' : res.toList ++ rest = st')
    (kk : ∀ q : Nat → Nat, Zd D Γ k' n' (ws' q) (pc + 3) lv st') : Zd D Γ k n ws pc lv st := by
  have kk : ∀ q : Nat → Nat, Zd D Γ (k + rm.cells) (n + rm.slots) (wr ++ wc' q) (pc + 3) lv (res.toList ++ rest) := fun q => by
    rw [hk', hn', hst', hws q]
    exact kk q
  intro H locs ls hP hD hS hl
  subst hnA
  subst hst
  have hPc := hP.sub (ws' := wc) isC hCf
  have hDc := hD.sub (ws' := wc) isC hnC hC
  refine g_back (rm := rm) (wc' := wc') C (As := .ref b :: As) (va_runV (Ts := zW) (nL := zg_n Γ) (C := y.cls) (bytes := bytes) (maxL := maxL) (ret := ret) ⟨C.hx, C.hb, C.hml, C.ho, C.ht⟩ (hl0 ▸ hM H.size) (cwV As.length C.ht (zgood (x := .initialized "") [.methodLink own idx y, .instanceMethod y, .selects y.cls y y, .initialized y.cls] (fun w hw => ?_) hw5) rfl rfl rfl ⟨rfl, hd⟩ (by rw [C.hR]; exact hR)) ⟨Zpre.blind, ?_, fun U hU hW => ⟨rfl, by rw [hU], by rw [hU]; exact hPc, va_K.moved hW.alike C.hK, hDc.weaken (fun _ _ _ _ => trivial)⟩⟩ rfl rfl hl.1 rfl (lv_room hW) d (by rw [C.hR]; exact ⟨hk, hn⟩)) isC isR hC hRr hnR hdis hP hD hS hl kk
  · simp only [List.mem_cons, List.not_mem_nil, or_false] at hw
    rcases hw with rfl | rfl | rfl | rfl <;> assumption
  · obtain ⟨cell, c1, c2, c3⟩ := va_recv C.hK hP hcq he
    exact ⟨cell, c1, c2, by rw [← hcn]; exact c3⟩
/-- a call of a static method -/
theorem g_callS (C : Zx D ca Γ cc own nL R) {l : Launch} (hl0 : zg_l Γ = l) {As : List Value} (hM : Zc l D ca y bytes maxL ret rm As wc res wc') (hw1 : Cond.methodLink own idx y ∈ zW) (hw2 : Cond.static y ∈ zW) (hw4 : Cond.initialized y.cls ∈ zW) (hw5 : Cond.code y bytes maxL ret ∈ zW)
    {nA : Nat} (hnA : As.length = nA) (hd : y.cls ≠ "java/lang/invoke/MethodHandle" ∧ y.cls ≠ "java/lang/invoke/VarHandle" ∧ (parseMethodDescriptor y.desc).map (fun d => d.parameters.length) = some nA) (hR : rm.frames + 1 ≤ R.frames ∧ 8 + (maxL + 11) + rm.locals ≤ R.locals) (hk : k + rm.cells ≤ R.cells) (hn : n + rm.slots ≤ R.slots)
    (hst : st = As.reverse ++ rest) (hW : (rest.map fun v => v.category).sum ≤ 8) (d : decode cc pc = .ok (.invokestatic idx, 3))
    (isC isR : List Nat) (hC : isC.map (fun i => ws[i]?) = wc.map some) (hCf : isC.filterMap (fun i => ws[i]?) = wc) (hRr : isR.map (fun i => ws[i]?) = wr.map some) (hnC : va_nd isC = true) (hnR : va_nd isR = true) (hdis : ∀ i ∈ isR, i ∉ isC) {k' n' : Nat} {ws' : (Nat → Nat) → va_W} {st' : List Value} (hk' : k + rm.cells = k') (hn' : n + rm.slots = n') (hws : ∀ q, wr ++ wc' q = ws' q) (hst' : res.toList ++ rest = st')
    (kk : ∀ q : Nat → Nat, Zd D Γ k' n' (ws' q) (pc + 3) lv st') : Zd D Γ k n ws pc lv st := by
  have kk : ∀ q : Nat → Nat, Zd D Γ (k + rm.cells) (n + rm.slots) (wr ++ wc' q) (pc + 3) lv (res.toList ++ rest) := fun q => by
    rw [hk', hn', hst', hws q]
    exact kk q
  intro H locs ls hP hD hS hl
  subst hnA
  subst hst
  have hPc := hP.sub (ws' := wc) isC hCf
  have hDc := hD.sub (ws' := wc) isC hnC hC
  refine g_back (rm := rm) (wc' := wc') C (As := As) (va_runS (Ts := zW) (nL := zg_n Γ) (bytes := bytes) (maxL := maxL) (ret := ret) ⟨C.hx, C.hb, C.hml, C.ho, C.ht⟩ (hl0 ▸ hM H.size) (va_cwS As.length C.ht (zgood (x := .initialized "") [.methodLink own idx y, .static y, .initialized y.cls] (fun w hw => ?_) hw5) rfl rfl rfl hd (by rw [C.hR]; exact hR)) ⟨Zpre.blind, fun U hU hW => ⟨rfl, by rw [hU], by rw [hU]; exact hPc, va_K.moved hW.alike C.hK, hDc.weaken (fun _ _ _ _ => trivial)⟩⟩ rfl rfl hl.1 rfl (lv_room hW) d (by rw [C.hR]; exact ⟨hk, hn⟩)) isC isR hC hRr hnR hdis hP hD hS hl kk
  simp only [List.mem_cons, List.not_mem_nil, or_false] at hw
  rcases hw with rfl | rfl | rfl <;> assumption
end ZCALL
