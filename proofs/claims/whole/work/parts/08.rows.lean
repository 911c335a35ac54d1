/-! the judgement: Γ the machine's fixed things; a world, a place, locals, a stack -/
abbrev ZG : Type := Program × Launch × Env × Room × State × MethodId × Array Value × List Frame × Method × Code × (Nat → Prop) × Nat × (State → Prop)
abbrev zg_p (Γ : ZG) : Program := Γ.1
abbrev zg_l (Γ : ZG) : Launch := Γ.2.1
abbrev zg_e (Γ : ZG) : Env := Γ.2.2.1
abbrev zg_R (Γ : ZG) : Room := Γ.2.2.2.1
abbrev zg_s (Γ : ZG) : State := Γ.2.2.2.2.1
abbrev zg_m (Γ : ZG) : MethodId := Γ.2.2.2.2.2.1
abbrev zg_a (Γ : ZG) : Array Value := Γ.2.2.2.2.2.2.1
abbrev zg_b (Γ : ZG) : List Frame := Γ.2.2.2.2.2.2.2.1
abbrev zg_t (Γ : ZG) : Method := Γ.2.2.2.2.2.2.2.2.1
abbrev zg_c (Γ : ZG) : Code := Γ.2.2.2.2.2.2.2.2.2.1
abbrev zg_A (Γ : ZG) : Nat → Prop := Γ.2.2.2.2.2.2.2.2.2.2.1
abbrev zg_n (Γ : ZG) : Nat := Γ.2.2.2.2.2.2.2.2.2.2.2.1
abbrev zg_Q (Γ : ZG) : State → Prop := Γ.2.2.2.2.2.2.2.2.2.2.2.2
abbrev zT (ca : Nat → ClassId) : List (ClassId × FieldType) := [(ca 0, .int), (ca 1, .byte), (ca 2, .long), (ca 3, .boolean), (ca 4, .object "WheelHours$Card"), (ca 5, .object "WheelHours$Trips")]
def ZW (Γ : ZG) (H : Heap) (locs : List Loc) (cells slots : Nat) (g : JFrame) : Prop := W (zg_p Γ) (zg_l Γ) (zg_e Γ) (zg_R Γ) (zg_s Γ) (zg_m Γ) (zg_a Γ) (zg_b Γ) (zg_t Γ) (zg_c Γ) H locs cells slots (zg_Q Γ) g
def Zd (D : va_G) (Γ : ZG) (cells slots : Nat) (ws : va_W) (pc : Nat) (lv : List (Nat × Value)) (st : List Value) : Prop :=
  ∀ (H : Heap) (locs : List Loc) (ls : Array Slot), va_P D vwCl ws H → va_D (zg_A Γ) ws → va_S (zg_A Γ) (zg_s Γ).heap H locs → lv_has ls (zg_n Γ) lv → ZW Γ H locs cells slots (F0 (zg_m Γ) pc ls st)
def Zx (D : va_G) (ca : Nat → ClassId) (Γ : ZG) (cc : ByteArray) (own : String) (nL : Nat) (R : Room) : Prop :=
  (zg_p Γ).tables.exec = Jvm.exec ∧ (zg_c Γ).code = cc ∧ (zg_c Γ).maxLocals = zg_n Γ ∧ (zg_s Γ).vm.findClass own = some (zg_m Γ).cls ∧ (∀ w ∈ zW, w.before (zg_a Γ) (zg_s Γ) = true) ∧ va_K D vwCl (zT ca) (zg_s Γ) ∧ (∀ q, (zg_s Γ).heap.size ≤ q → zg_A Γ q) ∧ zg_R Γ = R ∧ zg_n Γ = nL
section ZROWS
variable {D : va_G} {ca : Nat → ClassId} {Γ : ZG} {cc : ByteArray} {own : String} {nL : Nat} {R : Room} {k n : Nat} {ws : va_W} {pc : Nat} {lv : List (Nat × Value)} {st : List Value} {ρ : Type} {r : ρ}
theorem Zx.hx (C : Zx D ca Γ cc own nL R) : (zg_p Γ).tables.exec = Jvm.exec := C.1
theorem Zx.hb (C : Zx D ca Γ cc own nL R) : (zg_c Γ).code = cc := C.2.1
theorem Zx.hml (C : Zx D ca Γ cc own nL R) : (zg_c Γ).maxLocals = zg_n Γ := C.2.2.1
theorem Zx.ho (C : Zx D ca Γ cc own nL R) : (zg_s Γ).vm.findClass own = some (zg_m Γ).cls := C.2.2.2.1
theorem Zx.ht (C : Zx D ca Γ cc own nL R) : ∀ w ∈ zW, w.before (zg_a Γ) (zg_s Γ) = true := C.2.2.2.2.1
theorem Zx.hK (C : Zx D ca Γ cc own nL R) : va_K D vwCl (zT ca) (zg_s Γ) := C.2.2.2.2.2.1
theorem Zx.hA (C : Zx D ca Γ cc own nL R) : ∀ q, (zg_s Γ).heap.size ≤ q → zg_A Γ q := C.2.2.2.2.2.2.1
theorem Zx.hR (C : Zx D ca Γ cc own nL R) : zg_R Γ = R := C.2.2.2.2.2.2.2.1
theorem Zx.hn (C : Zx D ca Γ cc own nL R) : zg_n Γ = nL := C.2.2.2.2.2.2.2.2
theorem g_iconst (C : Zx D ca Γ cc own nL R) {v : Int} (d : decode cc pc = .ok (.iconst v, 1)) (kk : Zd D Γ k n ws (pc + 1) lv (.int (zI v) :: st)) : Zd D Γ k n ws pc lv st := by
  intro H locs ls hP hD hS hl
  exact lv_iconst C.hx C.hb d rfl (kk H locs ls hP hD hS hl)
theorem g_bipush (C : Zx D ca Γ cc own nL R) {v : Int} (d : decode cc pc = .ok (.bipush v, 2)) (hv : (Int8.ofInt v).toInt32 = zI v) (kk : Zd D Γ k n ws (pc + 2) lv (.int (zI v) :: st)) : Zd D Γ k n ws pc lv st := by
  intro H locs ls hP hD hS hl
  exact lv_bipush C.hx C.hb d hv (kk H locs ls hP hD hS hl)
theorem g_sipush (C : Zx D ca Γ cc own nL R) {v : Int} (d : decode cc pc = .ok (.sipush v, 3)) (hv : (Int16.ofInt v).toInt32 = zI v) (kk : Zd D Γ k n ws (pc + 3) lv (.int (zI v) :: st)) : Zd D Γ k n ws pc lv st := by
  intro H locs ls hP hD hS hl
  exact lv_sipush C.hx C.hb d hv (kk H locs ls hP hD hS hl)
theorem g_lconst (C : Zx D ca Γ cc own nL R) {v : Fin 2} {x : Int} (d : decode cc pc = .ok (.lconst v, 1)) (hv : Int64.ofNat (v : Nat) = zJ x) (kk : Zd D Γ k n ws (pc + 1) lv (.long (zJ x) :: st)) : Zd D Γ k n ws pc lv st := by
  intro H locs ls hP hD hS hl
  exact lv_lconst C.hx C.hb d hv (kk H locs ls hP hD hS hl)
theorem g_ldc2 (C : Zx D ca Γ cc own nL R) {v : Int64} {x : Int} {i : Nat} (d : decode cc pc = .ok (.ldc2_w i, 3)) (hw : Cond.constantLong own i v ∈ zW) (hv : v = zJ x) (kk : Zd D Γ k n ws (pc + 3) lv (.long (zJ x) :: st)) : Zd D Γ k n ws pc lv st := by
  intro H locs ls hP hD hS hl
  subst hv
  exact lv_ldc2 C.hx C.hb C.ho (C.ht _ hw) d (kk H locs ls hP hD hS hl)
theorem g_null (C : Zx D ca Γ cc own nL R) (d : decode cc pc = .ok (.aconst_null, 1)) (kk : Zd D Γ k n ws (pc + 1) lv (.null :: st)) : Zd D Γ k n ws pc lv st := by
  intro H locs ls hP hD hS hl
  exact lv_null C.hx C.hb d (kk H locs ls hP hD hS hl)
theorem g_iload_n (C : Zx D ca Γ cc own nL R) (q : Nat) {i : Fin 4} {j : Nat} {x : Int} (d : decode cc pc = .ok (.iload_n i, 1)) (hi : (i : Nat) = j) (hq : lv[q]? = some (j, .int (zI x))) (kk : Zd D Γ k n ws (pc + 1) lv (.int (zI x) :: st)) : Zd D Γ k n ws pc lv st := by
  intro H locs ls hP hD hS hl
  exact lv_iload_n C.hx C.hb d hi (lv_at hl q hq) (kk H locs ls hP hD hS hl)
theorem g_iload (C : Zx D ca Γ cc own nL R) (q : Nat) {j : Nat} {x : Int} (d : decode cc pc = .ok (.iload j, 2)) (hq : lv[q]? = some (j, .int (zI x))) (kk : Zd D Γ k n ws (pc + 2) lv (.int (zI x) :: st)) : Zd D Γ k n ws pc lv st := by
  intro H locs ls hP hD hS hl
  exact lv_iload C.hx C.hb d (lv_at hl q hq) (kk H locs ls hP hD hS hl)
theorem g_istore_n (C : Zx D ca Γ cc own nL R) {i : Fin 4} {j : Nat} {x : Int} {lv' : List (Nat × Value)} (d : decode cc pc = .ok (.istore_n i, 1)) (hi : (i : Nat) = j) (hj : j < nL) (hl' : (j, Value.int (zI x)) :: lv.filter (fun q => !(q.1 == j) && !(q.1 + 1 == j && q.2.category == 2)) = lv') (kk : Zd D Γ k n ws (pc + 1) lv' st) : Zd D Γ k n ws pc lv (.int (zI x) :: st) := by
  intro H locs ls hP hD hS hl
  exact lv_istore_n C.hx C.hb d hi hl (by rw [C.hn]; exact hj) hl' (fun ls hl => kk H locs ls hP hD hS hl)
theorem g_istore (C : Zx D ca Γ cc own nL R) {j : Nat} {x : Int} {lv' : List (Nat × Value)} (d : decode cc pc = .ok (.istore j, 2)) (hj : j < nL) (hl' : (j, Value.int (zI x)) :: lv.filter (fun q => !(q.1 == j) && !(q.1 + 1 == j && q.2.category == 2)) = lv') (kk : Zd D Γ k n ws (pc + 2) lv' st) : Zd D Γ k n ws pc lv (.int (zI x) :: st) := by
  intro H locs ls hP hD hS hl
  exact lv_istore C.hx C.hb d hl (by rw [C.hn]; exact hj) hl' (fun ls hl => kk H locs ls hP hD hS hl)
theorem g_lload_n (C : Zx D ca Γ cc own nL R) (q : Nat) {i : Fin 4} {j : Nat} {x : Int} (d : decode cc pc = .ok (.lload_n i, 1)) (hi : (i : Nat) = j) (hq : lv[q]? = some (j, .long (zJ x))) (kk : Zd D Γ k n ws (pc + 1) lv (.long (zJ x) :: st)) : Zd D Γ k n ws pc lv st := by
  intro H locs ls hP hD hS hl
  exact lv_lload_n C.hx C.hb d hi (lv_at hl q hq) (kk H locs ls hP hD hS hl)
theorem g_lload (C : Zx D ca Γ cc own nL R) (q : Nat) {j : Nat} {x : Int} (d : decode cc pc = .ok (.lload j, 2)) (hq : lv[q]? = some (j, .long (zJ x))) (kk : Zd D Γ k n ws (pc + 2) lv (.long (zJ x) :: st)) : Zd D Γ k n ws pc lv st := by
  intro H locs ls hP hD hS hl
  exact lv_lload C.hx C.hb d (lv_at hl q hq) (kk H locs ls hP hD hS hl)
theorem g_lstore_n (C : Zx D ca Γ cc own nL R) {i : Fin 4} {j : Nat} {x : Int} {lv' : List (Nat × Value)} (d : decode cc pc = .ok (.lstore_n i, 1)) (hi : (i : Nat) = j) (hj : j + 1 < nL) (hl' : (j, Value.long (zJ x)) :: lv.filter (fun q => !(q.1 == j) && (!(q.1 == j + 1) && !(q.1 + 1 == j && q.2.category == 2))) = lv') (kk : Zd D Γ k n ws (pc + 1) lv' st) : Zd D Γ k n ws pc lv (.long (zJ x) :: st) := by
  intro H locs ls hP hD hS hl
  exact lv_lstore_n C.hx C.hb d hi hl (by rw [C.hn]; exact hj) hl' (fun ls hl => kk H locs ls hP hD hS hl)
theorem g_lstore (C : Zx D ca Γ cc own nL R) {j : Nat} {x : Int} {lv' : List (Nat × Value)} (d : decode cc pc = .ok (.lstore j, 2)) (hj : j + 1 < nL) (hl' : (j, Value.long (zJ x)) :: lv.filter (fun q => !(q.1 == j) && (!(q.1 == j + 1) && !(q.1 + 1 == j && q.2.category == 2))) = lv') (kk : Zd D Γ k n ws (pc + 2) lv' st) : Zd D Γ k n ws pc lv (.long (zJ x) :: st) := by
  intro H locs ls hP hD hS hl
  exact lv_lstore C.hx C.hb d hl (by rw [C.hn]; exact hj) hl' (fun ls hl => kk H locs ls hP hD hS hl)
theorem g_aload_n (C : Zx D ca Γ cc own nL R) (q : Nat) {i : Fin 4} {j : Nat} {x : Nat} (d : decode cc pc = .ok (.aload_n i, 1)) (hi : (i : Nat) = j) (hq : lv[q]? = some (j, .ref x)) (kk : Zd D Γ k n ws (pc + 1) lv (.ref x :: st)) : Zd D Γ k n ws pc lv st := by
  intro H locs ls hP hD hS hl
  exact lv_aload_n C.hx C.hb d hi (lv_at hl q hq) (kk H locs ls hP hD hS hl)
theorem g_aload (C : Zx D ca Γ cc own nL R) (q : Nat) {j : Nat} {x : Nat} (d : decode cc pc = .ok (.aload j, 2)) (hq : lv[q]? = some (j, .ref x)) (kk : Zd D Γ k n ws (pc + 2) lv (.ref x :: st)) : Zd D Γ k n ws pc lv st := by
  intro H locs ls hP hD hS hl
  exact lv_aload C.hx C.hb d (lv_at hl q hq) (kk H locs ls hP hD hS hl)
theorem g_astore_n (C : Zx D ca Γ cc own nL R) {i : Fin 4} {j : Nat} {x : Nat} {lv' : List (Nat × Value)} (d : decode cc pc = .ok (.astore_n i, 1)) (hi : (i : Nat) = j) (hj : j < nL) (hl' : (j, Value.ref x) :: lv.filter (fun q => !(q.1 == j) && !(q.1 + 1 == j && q.2.category == 2)) = lv') (kk : Zd D Γ k n ws (pc + 1) lv' st) : Zd D Γ k n ws pc lv (.ref x :: st) := by
  intro H locs ls hP hD hS hl
  exact lv_astore_n C.hx C.hb d hi hl (by rw [C.hn]; exact hj) hl' (fun ls hl => kk H locs ls hP hD hS hl)
theorem g_astore (C : Zx D ca Γ cc own nL R) {j : Nat} {x : Nat} {lv' : List (Nat × Value)} (d : decode cc pc = .ok (.astore j, 2)) (hj : j < nL) (hl' : (j, Value.ref x) :: lv.filter (fun q => !(q.1 == j) && !(q.1 + 1 == j && q.2.category == 2)) = lv') (kk : Zd D Γ k n ws (pc + 2) lv' st) : Zd D Γ k n ws pc lv (.ref x :: st) := by
  intro H locs ls hP hD hS hl
  exact lv_astore C.hx C.hb d hl (by rw [C.hn]; exact hj) hl' (fun ls hl => kk H locs ls hP hD hS hl)
-- null in locals
theorem g_aloadN_n (C : Zx D ca Γ cc own nL R) (q : Nat) {i : Fin 4} {j : Nat} (d : decode cc pc = .ok (.aload_n i, 1)) (hi : (i : Nat) = j) (hq : lv[q]? = some (j, .null)) (kk : Zd D Γ k n ws (pc + 1) lv (.null :: st)) : Zd D Γ k n ws pc lv st := by
  intro H locs ls hP hD hS hl
  exact lv_aload_nN C.hx C.hb d hi (lv_at hl q hq) (kk H locs ls hP hD hS hl)
theorem g_iinc (C : Zx D ca Γ cc own nL R) (q : Nat) {j : Nat} {x v : Int} {lv' : List (Nat × Value)} (d : decode cc pc = .ok (.iinc j v, 3)) (hq : lv[q]? = some (j, .int (zI x))) (hj : j < nL) (hl' : (j, Value.int (zI (x + v))) :: lv.filter (fun q => !(q.1 == j) && !(q.1 + 1 == j && q.2.category == 2)) = lv') (kk : Zd D Γ k n ws (pc + 3) lv' st) : Zd D Γ k n ws pc lv st := by
  intro H locs ls hP hD hS hl
  exact lv_iinc C.hx C.hb d hl hq (zI_add x v) (by rw [C.hn]; exact hj) hl' (fun ls hl => kk H locs ls hP hD hS hl)
theorem g_iadd (C : Zx D ca Γ cc own nL R) {x y : Int} (d : decode cc pc = .ok (.iadd, 1)) (kk : Zd D Γ k n ws (pc + 1) lv (.int (zI (x + y)) :: st)) : Zd D Γ k n ws pc lv (.int (zI y) :: .int (zI x) :: st) := by
  intro H locs ls hP hD hS hl
  refine lv_iadd C.hx C.hb d ?_
  rw [zI_add]
  exact kk H locs ls hP hD hS hl
theorem g_isub (C : Zx D ca Γ cc own nL R) {x y : Int} (d : decode cc pc = .ok (.isub, 1)) (kk : Zd D Γ k n ws (pc + 1) lv (.int (zI (x - y)) :: st)) : Zd D Γ k n ws pc lv (.int (zI y) :: .int (zI x) :: st) := by
  intro H locs ls hP hD hS hl
  refine lv_isub C.hx C.hb d ?_
  rw [zI_sub]
  exact kk H locs ls hP hD hS hl
theorem g_imul (C : Zx D ca Γ cc own nL R) {x y : Int} (d : decode cc pc = .ok (.imul, 1)) (kk : Zd D Γ k n ws (pc + 1) lv (.int (zI (x * y)) :: st)) : Zd D Γ k n ws pc lv (.int (zI y) :: .int (zI x) :: st) := by
  intro H locs ls hP hD hS hl
  refine lv_imul C.hx C.hb d ?_
  rw [zI_mul]
  exact kk H locs ls hP hD hS hl
theorem g_iand (C : Zx D ca Γ cc own nL R) {x y : Int} (d : decode cc pc = .ok (.iand, 1)) (kk : Zd D Γ k n ws (pc + 1) lv (.int (zI (zand x y)) :: st)) : Zd D Γ k n ws pc lv (.int (zI y) :: .int (zI x) :: st) := by
  intro H locs ls hP hD hS hl
  refine lv_iand C.hx C.hb d ?_
  rw [zand_I]
  exact kk H locs ls hP hD hS hl
theorem g_ishr (C : Zx D ca Γ cc own nL R) {x y : Int} (d : decode cc pc = .ok (.ishr, 1)) (kk : Zd D Γ k n ws (pc + 1) lv (.int (zI (zshr x y)) :: st)) : Zd D Γ k n ws pc lv (.int (zI y) :: .int (zI x) :: st) := by
  intro H locs ls hP hD hS hl
  refine lv_ishr C.hx C.hb d ?_
  rw [zshr_I]
  exact kk H locs ls hP hD hS hl
theorem g_ishl (C : Zx D ca Γ cc own nL R) {x y : Int} (d : decode cc pc = .ok (.ishl, 1)) (kk : Zd D Γ k n ws (pc + 1) lv (.int (zI (zshl x y)) :: st)) : Zd D Γ k n ws pc lv (.int (zI y) :: .int (zI x) :: st) := by
  intro H locs ls hP hD hS hl
  refine lv_ishl C.hx C.hb d ?_
  rw [zshl_I]
  exact kk H locs ls hP hD hS hl
theorem g_ladd (C : Zx D ca Γ cc own nL R) {x y : Int} (d : decode cc pc = .ok (.ladd, 1)) (kk : Zd D Γ k n ws (pc + 1) lv (.long (zJ (x + y)) :: st)) : Zd D Γ k n ws pc lv (.long (zJ y) :: .long (zJ x) :: st) := by
  intro H locs ls hP hD hS hl
  refine lv_ladd C.hx C.hb d ?_
  rw [zJ_add]
  exact kk H locs ls hP hD hS hl
theorem g_lsub (C : Zx D ca Γ cc own nL R) {x y : Int} (d : decode cc pc = .ok (.lsub, 1)) (kk : Zd D Γ k n ws (pc + 1) lv (.long (zJ (x - y)) :: st)) : Zd D Γ k n ws pc lv (.long (zJ y) :: .long (zJ x) :: st) := by
  intro H locs ls hP hD hS hl
  refine lv_lsub C.hx C.hb d ?_
  rw [zJ_sub]
  exact kk H locs ls hP hD hS hl
theorem g_lmul (C : Zx D ca Γ cc own nL R) {x y : Int} (d : decode cc pc = .ok (.lmul, 1)) (kk : Zd D Γ k n ws (pc + 1) lv (.long (zJ (x * y)) :: st)) : Zd D Γ k n ws pc lv (.long (zJ y) :: .long (zJ x) :: st) := by
  intro H locs ls hP hD hS hl
  refine lv_lmul C.hx C.hb d ?_
  rw [zJ_mul]
  exact kk H locs ls hP hD hS hl
theorem g_iushr (C : Zx D ca Γ cc own nL R) {x y : Int} (d : decode cc pc = .ok (.iushr, 1)) (kk : Zd D Γ k n ws (pc + 1) lv (.int (zI (zushr x y)) :: st)) : Zd D Γ k n ws pc lv (.int (zI y) :: .int (zI x) :: st) := by
  intro H locs ls hP hD hS hl
  exact lv_iushr C.hx C.hb d (zushr_I x y) (kk H locs ls hP hD hS hl)
theorem g_i2b (C : Zx D ca Γ cc own nL R) {x : Int} (d : decode cc pc = .ok (.i2b, 1)) (kk : Zd D Γ k n ws (pc + 1) lv (.int (zI (zi2b x)) :: st)) : Zd D Γ k n ws pc lv (.int (zI x) :: st) := by
  intro H locs ls hP hD hS hl
  exact lv_i2b C.hx C.hb d (zi2b_I x) (kk H locs ls hP hD hS hl)
theorem g_lshr (C : Zx D ca Γ cc own nL R) {x y : Int} (d : decode cc pc = .ok (.lshr, 1)) (kk : Zd D Γ k n ws (pc + 1) lv (.long (zJ (zlshr x y)) :: st)) : Zd D Γ k n ws pc lv (.int (zI y) :: .long (zJ x) :: st) := by
  intro H locs ls hP hD hS hl
  exact lv_lshr C.hx C.hb d (zlshr_J x y) (kk H locs ls hP hD hS hl)
theorem g_i2l (C : Zx D ca Γ cc own nL R) {x : Int} {F : Option ρ} (d : decode cc pc = .ok (.i2l, 1)) (hf : (if zR x then F else none) = some r) (kk : F = some r → Zd D Γ k n ws (pc + 1) lv (.long (zJ x) :: st)) : Zd D Γ k n ws pc lv (.int (zI x) :: st) := by
  intro H locs ls hP hD hS hl
  exact lv_i2l C.hx C.hb d (zI_i2l (zck hf).1) (kk (zck hf).2 H locs ls hP hD hS hl)
theorem g_lcmp (C : Zx D ca Γ cc own nL R) {x y : Int} {F : Option ρ} (d : decode cc pc = .ok (.lcmp, 1)) (hf : (if zRJ x ∧ zRJ y then F else none) = some r) (kk : F = some r → Zd D Γ k n ws (pc + 1) lv (.int (zI (zcmp x y)) :: st)) : Zd D Γ k n ws pc lv (.long (zJ y) :: .long (zJ x) :: st) := by
  intro H locs ls hP hD hS hl
  refine W.lcmp C.hx C.hb d ?_
  rw [zcmp_I (zck hf).1.1 (zck hf).1.2]
  exact kk (zck hf).2 H locs ls hP hD hS hl
theorem g_idiv (C : Zx D ca Γ cc own nL R) {x y : Int} {F : Option ρ} (d : decode cc pc = .ok (.idiv, 1)) (hy : (zR y ∧ ¬ y = 0) ∧ ¬ y = -1) (hf : (if zR x then F else none) = some r) (kk : F = some r → Zd D Γ k n ws (pc + 1) lv (.int (zI (x.tdiv y)) :: st)) : Zd D Γ k n ws pc lv (.int (zI y) :: .int (zI x) :: st) := by
  intro H locs ls hP hD hS hl
  refine lv_idiv C.hx C.hb d (fun q => hy.1.2 ((zI_eq hy.1.1 (by decide)).mp (q.trans zI_0.symm))) ?_
  rw [zI_div (zck hf).1 hy.1.1 (fun q => hy.2 q.2)]
  exact kk (zck hf).2 H locs ls hP hD hS hl
theorem g_idivC (C : Zx D ca Γ cc own nL R) {x y : Int} {F : Option ρ} (d : decode cc pc = .ok (.idiv, 1)) (hf : (if zR x ∧ (zR y ∧ ¬ y = 0) ∧ ¬ y = -1 then F else none) = some r) (kk : F = some r → Zd D Γ k n ws (pc + 1) lv (.int (zI (x.tdiv y)) :: st)) : Zd D Γ k n ws pc lv (.int (zI y) :: .int (zI x) :: st) := by
  intro H locs ls hP hD hS hl
  have hy := (zck hf).1.2
  refine lv_idiv C.hx C.hb d (fun q => hy.1.2 ((zI_eq hy.1.1 (by decide)).mp (q.trans zI_0.symm))) ?_
  rw [zI_div (zck hf).1.1 hy.1.1 (fun q => hy.2 q.2)]
  exact kk (zck hf).2 H locs ls hP hD hS hl
theorem g_irem (C : Zx D ca Γ cc own nL R) {x y : Int} {F : Option ρ} (d : decode cc pc = .ok (.irem, 1)) (hy : (zR y ∧ ¬ y = 0) ∧ ¬ y = -1) (hf : (if zR x then F else none) = some r) (kk : F = some r → Zd D Γ k n ws (pc + 1) lv (.int (zI (x - x.tdiv y * y)) :: st)) : Zd D Γ k n ws pc lv (.int (zI y) :: .int (zI x) :: st) := by
  intro H locs ls hP hD hS hl
  refine lv_irem C.hx C.hb d (fun q => hy.1.2 ((zI_eq hy.1.1 (by decide)).mp (q.trans zI_0.symm))) ?_
  rw [zI_rem (zck hf).1 hy.1.1 (fun q => hy.2 q.2)]
  exact kk (zck hf).2 H locs ls hP hD hS hl
theorem g_iremC (C : Zx D ca Γ cc own nL R) {x y : Int} {F : Option ρ} (d : decode cc pc = .ok (.irem, 1)) (hf : (if zR x ∧ (zR y ∧ ¬ y = 0) ∧ ¬ y = -1 then F else none) = some r) (kk : F = some r → Zd D Γ k n ws (pc + 1) lv (.int (zI (x - x.tdiv y * y)) :: st)) : Zd D Γ k n ws pc lv (.int (zI y) :: .int (zI x) :: st) := by
  intro H locs ls hP hD hS hl
  have hy := (zck hf).1.2
  refine lv_irem C.hx C.hb d (fun q => hy.1.2 ((zI_eq hy.1.1 (by decide)).mp (q.trans zI_0.symm))) ?_
  rw [zI_rem (zck hf).1.1 hy.1.1 (fun q => hy.2 q.2)]
  exact kk (zck hf).2 H locs ls hP hD hS hl
theorem g_icmp_eq (C : Zx D ca Γ cc own nL R) {x y : Int} {F G : Option ρ} {off : Int} {tgt : Nat} (d : decode cc pc = .ok (.if_icmp .eq off, 3)) (ht : (pc : Int) + off = (tgt : Int)) (hf : (if zR x ∧ zR y then (if x = y then F else G) else none) = some r) (k1 : F = some r → Zd D Γ k n ws tgt lv st) (k2 : G = some r → Zd D Γ k n ws (pc + 3) lv st) : Zd D Γ k n ws pc lv (.int (zI y) :: .int (zI x) :: st) := by
  intro H locs ls hP hD hS hl
  have hc := zck hf
  obtain ⟨⟨hx, hy⟩, hf⟩ := hc
  refine lv_icmp_eq C.hx C.hb d ht (fun q => ?_) (fun q => ?_)
  · rw [if_pos ((zI_eq hx hy).mp q)] at hf
    exact k1 hf H locs ls hP hD hS hl
  · rw [if_neg (fun z => q ((zI_eq hx hy).mpr z))] at hf
    exact k2 hf H locs ls hP hD hS hl
theorem g_icmp_eqr (C : Zx D ca Γ cc own nL R) {x y : Int} {F G : Option ρ} {off : Int} {tgt : Nat} (d : decode cc pc = .ok (.if_icmp .eq off, 3)) (ht : (pc : Int) + off = (tgt : Int)) (hy : zR y) (hf : (if zR x then (if x = y then F else G) else none) = some r) (k1 : F = some r → Zd D Γ k n ws tgt lv st) (k2 : G = some r → Zd D Γ k n ws (pc + 3) lv st) : Zd D Γ k n ws pc lv (.int (zI y) :: .int (zI x) :: st) := by
  intro H locs ls hP hD hS hl
  have hc := zck hf
  obtain ⟨hx, hf⟩ := hc
  refine lv_icmp_eq C.hx C.hb d ht (fun q => ?_) (fun q => ?_)
  · rw [if_pos ((zI_eq hx hy).mp q)] at hf
    exact k1 hf H locs ls hP hD hS hl
  · rw [if_neg (fun z => q ((zI_eq hx hy).mpr z))] at hf
    exact k2 hf H locs ls hP hD hS hl
theorem g_if_eq (C : Zx D ca Γ cc own nL R) {x : Int} {F G : Option ρ} {off : Int} {tgt : Nat} (d : decode cc pc = .ok (.ifCond .eq off, 3)) (ht : (pc : Int) + off = (tgt : Int)) (hf : (if zR x then (if x = 0 then F else G) else none) = some r) (k1 : F = some r → Zd D Γ k n ws tgt lv st) (k2 : G = some r → Zd D Γ k n ws (pc + 3) lv st) : Zd D Γ k n ws pc lv (.int (zI x) :: st) := by
  intro H locs ls hP hD hS hl
  obtain ⟨hx, hf⟩ := zck hf
  refine lv_if_eq C.hx C.hb d ht (fun q => ?_) (fun q => ?_)
  · rw [if_pos ((zI_eq (y := 0) hx (by decide)).mp q)] at hf
    exact k1 hf H locs ls hP hD hS hl
  · rw [if_neg (fun z => q ((zI_eq (y := 0) hx (by decide)).mpr z))] at hf
    exact k2 hf H locs ls hP hD hS hl
theorem g_icmp_ne (C : Zx D ca Γ cc own nL R) {x y : Int} {F G : Option ρ} {off : Int} {tgt : Nat} (d : decode cc pc = .ok (.if_icmp .ne off, 3)) (ht : (pc : Int) + off = (tgt : Int)) (hf : (if zR x ∧ zR y then (if x ≠ y then F else G) else none) = some r) (k1 : F = some r → Zd D Γ k n ws tgt lv st) (k2 : G = some r → Zd D Γ k n ws (pc + 3) lv st) : Zd D Γ k n ws pc lv (.int (zI y) :: .int (zI x) :: st) := by
  intro H locs ls hP hD hS hl
  have hc := zck hf
  obtain ⟨⟨hx, hy⟩, hf⟩ := hc
  refine lv_icmp_ne C.hx C.hb d ht (fun q => ?_) (fun q => ?_)
  · rw [if_pos (fun z => q ((zI_eq hx hy).mpr z))] at hf
    exact k1 hf H locs ls hP hD hS hl
  · rw [if_neg (fun z => z ((zI_eq hx hy).mp q))] at hf
    exact k2 hf H locs ls hP hD hS hl
theorem g_icmp_ner (C : Zx D ca Γ cc own nL R) {x y : Int} {F G : Option ρ} {off : Int} {tgt : Nat} (d : decode cc pc = .ok (.if_icmp .ne off, 3)) (ht : (pc : Int) + off = (tgt : Int)) (hy : zR y) (hf : (if zR x then (if x ≠ y then F else G) else none) = some r) (k1 : F = some r → Zd D Γ k n ws tgt lv st) (k2 : G = some r → Zd D Γ k n ws (pc + 3) lv st) : Zd D Γ k n ws pc lv (.int (zI y) :: .int (zI x) :: st) := by
  intro H locs ls hP hD hS hl
  have hc := zck hf
  obtain ⟨hx, hf⟩ := hc
  refine lv_icmp_ne C.hx C.hb d ht (fun q => ?_) (fun q => ?_)
  · rw [if_pos (fun z => q ((zI_eq hx hy).mpr z))] at hf
    exact k1 hf H locs ls hP hD hS hl
  · rw [if_neg (fun z => z ((zI_eq hx hy).mp q))] at hf
    exact k2 hf H locs ls hP hD hS hl
theorem g_if_ne (C : Zx D ca Γ cc own nL R) {x : Int} {F G : Option ρ} {off : Int} {tgt : Nat} (d : decode cc pc = .ok (.ifCond .ne off, 3)) (ht : (pc : Int) + off = (tgt : Int)) (hf : (if zR x then (if x ≠ 0 then F else G) else none) = some r) (k1 : F = some r → Zd D Γ k n ws tgt lv st) (k2 : G = some r → Zd D Γ k n ws (pc + 3) lv st) : Zd D Γ k n ws pc lv (.int (zI x) :: st) := by
  intro H locs ls hP hD hS hl
  obtain ⟨hx, hf⟩ := zck hf
  refine lv_if_ne C.hx C.hb d ht (fun q => ?_) (fun q => ?_)
  · rw [if_pos (fun z => q ((zI_eq (y := 0) hx (by decide)).mpr z))] at hf
    exact k1 hf H locs ls hP hD hS hl
  · rw [if_neg (fun z => z ((zI_eq (y := 0) hx (by decide)).mp q))] at hf
    exact k2 hf H locs ls hP hD hS hl
theorem g_icmp_lt (C : Zx D ca Γ cc own nL R) {x y : Int} {F G : Option ρ} {off : Int} {tgt : Nat} (d : decode cc pc = .ok (.if_icmp .lt off, 3)) (ht : (pc : Int) + off = (tgt : Int)) (hf : (if zR x ∧ zR y then (if x < y then F else G) else none) = some r) (k1 : F = some r → Zd D Γ k n ws tgt lv st) (k2 : G = some r → Zd D Γ k n ws (pc + 3) lv st) : Zd D Γ k n ws pc lv (.int (zI y) :: .int (zI x) :: st) := by
  intro H locs ls hP hD hS hl
  have hc := zck hf
  obtain ⟨⟨hx, hy⟩, hf⟩ := hc
  refine lv_icmp_lt C.hx C.hb d ht (fun q => ?_) (fun q => ?_)
  · rw [if_pos ((zI_lt hx hy).mp q)] at hf
    exact k1 hf H locs ls hP hD hS hl
  · rw [if_neg (fun z => q ((zI_lt hx hy).mpr z))] at hf
    exact k2 hf H locs ls hP hD hS hl
theorem g_icmp_ltr (C : Zx D ca Γ cc own nL R) {x y : Int} {F G : Option ρ} {off : Int} {tgt : Nat} (d : decode cc pc = .ok (.if_icmp .lt off, 3)) (ht : (pc : Int) + off = (tgt : Int)) (hy : zR y) (hf : (if zR x then (if x < y then F else G) else none) = some r) (k1 : F = some r → Zd D Γ k n ws tgt lv st) (k2 : G = some r → Zd D Γ k n ws (pc + 3) lv st) : Zd D Γ k n ws pc lv (.int (zI y) :: .int (zI x) :: st) := by
  intro H locs ls hP hD hS hl
  have hc := zck hf
  obtain ⟨hx, hf⟩ := hc
  refine lv_icmp_lt C.hx C.hb d ht (fun q => ?_) (fun q => ?_)
  · rw [if_pos ((zI_lt hx hy).mp q)] at hf
    exact k1 hf H locs ls hP hD hS hl
  · rw [if_neg (fun z => q ((zI_lt hx hy).mpr z))] at hf
    exact k2 hf H locs ls hP hD hS hl
theorem g_if_lt (C : Zx D ca Γ cc own nL R) {x : Int} {F G : Option ρ} {off : Int} {tgt : Nat} (d : decode cc pc = .ok (.ifCond .lt off, 3)) (ht : (pc : Int) + off = (tgt : Int)) (hf : (if zR x then (if x < 0 then F else G) else none) = some r) (k1 : F = some r → Zd D Γ k n ws tgt lv st) (k2 : G = some r → Zd D Γ k n ws (pc + 3) lv st) : Zd D Γ k n ws pc lv (.int (zI x) :: st) := by
  intro H locs ls hP hD hS hl
  obtain ⟨hx, hf⟩ := zck hf
  refine lv_if_lt C.hx C.hb d ht (fun q => ?_) (fun q => ?_)
  · rw [if_pos ((zI_lt (y := 0) hx (by decide)).mp q)] at hf
    exact k1 hf H locs ls hP hD hS hl
  · rw [if_neg (fun z => q ((zI_lt (y := 0) hx (by decide)).mpr z))] at hf
    exact k2 hf H locs ls hP hD hS hl
theorem g_icmp_ge (C : Zx D ca Γ cc own nL R) {x y : Int} {F G : Option ρ} {off : Int} {tgt : Nat} (d : decode cc pc = .ok (.if_icmp .ge off, 3)) (ht : (pc : Int) + off = (tgt : Int)) (hf : (if zR x ∧ zR y then (if y ≤ x then F else G) else none) = some r) (k1 : F = some r → Zd D Γ k n ws tgt lv st) (k2 : G = some r → Zd D Γ k n ws (pc + 3) lv st) : Zd D Γ k n ws pc lv (.int (zI y) :: .int (zI x) :: st) := by
  intro H locs ls hP hD hS hl
  have hc := zck hf
  obtain ⟨⟨hx, hy⟩, hf⟩ := hc
  refine lv_icmp_ge C.hx C.hb d ht (fun q => ?_) (fun q => ?_)
  · rw [if_pos ((zI_le hy hx).mp q)] at hf
    exact k1 hf H locs ls hP hD hS hl
  · rw [if_neg (fun z => q ((zI_le hy hx).mpr z))] at hf
    exact k2 hf H locs ls hP hD hS hl
theorem g_icmp_ger (C : Zx D ca Γ cc own nL R) {x y : Int} {F G : Option ρ} {off : Int} {tgt : Nat} (d : decode cc pc = .ok (.if_icmp .ge off, 3)) (ht : (pc : Int) + off = (tgt : Int)) (hy : zR y) (hf : (if zR x then (if y ≤ x then F else G) else none) = some r) (k1 : F = some r → Zd D Γ k n ws tgt lv st) (k2 : G = some r → Zd D Γ k n ws (pc + 3) lv st) : Zd D Γ k n ws pc lv (.int (zI y) :: .int (zI x) :: st) := by
  intro H locs ls hP hD hS hl
  have hc := zck hf
  obtain ⟨hx, hf⟩ := hc
  refine lv_icmp_ge C.hx C.hb d ht (fun q => ?_) (fun q => ?_)
  · rw [if_pos ((zI_le hy hx).mp q)] at hf
    exact k1 hf H locs ls hP hD hS hl
  · rw [if_neg (fun z => q ((zI_le hy hx).mpr z))] at hf
    exact k2 hf H locs ls hP hD hS hl
theorem g_if_ge (C : Zx D ca Γ cc own nL R) {x : Int} {F G : Option ρ} {off : Int} {tgt : Nat} (d : decode cc pc = .ok (.ifCond .ge off, 3)) (ht : (pc : Int) + off = (tgt : Int)) (hf : (if zR x then (if 0 ≤ x then F else G) else none) = some r) (k1 : F = some r → Zd D Γ k n ws tgt lv st) (k2 : G = some r → Zd D Γ k n ws (pc + 3) lv st) : Zd D Γ k n ws pc lv (.int (zI x) :: st) := by
  intro H locs ls hP hD hS hl
  obtain ⟨hx, hf⟩ := zck hf
  refine lv_if_ge C.hx C.hb d ht (fun q => ?_) (fun q => ?_)
  · rw [if_pos ((zI_le (x := 0) (by decide) hx).mp q)] at hf
    exact k1 hf H locs ls hP hD hS hl
  · rw [if_neg (fun z => q ((zI_le (x := 0) (by decide) hx).mpr z))] at hf
    exact k2 hf H locs ls hP hD hS hl
theorem g_icmp_gt (C : Zx D ca Γ cc own nL R) {x y : Int} {F G : Option ρ} {off : Int} {tgt : Nat} (d : decode cc pc = .ok (.if_icmp .gt off, 3)) (ht : (pc : Int) + off = (tgt : Int)) (hf : (if zR x ∧ zR y then (if y < x then F else G) else none) = some r) (k1 : F = some r → Zd D Γ k n ws tgt lv st) (k2 : G = some r → Zd D Γ k n ws (pc + 3) lv st) : Zd D Γ k n ws pc lv (.int (zI y) :: .int (zI x) :: st) := by
  intro H locs ls hP hD hS hl
  have hc := zck hf
  obtain ⟨⟨hx, hy⟩, hf⟩ := hc
  refine lv_icmp_gt C.hx C.hb d ht (fun q => ?_) (fun q => ?_)
  · rw [if_pos ((zI_lt hy hx).mp q)] at hf
    exact k1 hf H locs ls hP hD hS hl
  · rw [if_neg (fun z => q ((zI_lt hy hx).mpr z))] at hf
    exact k2 hf H locs ls hP hD hS hl
theorem g_icmp_gtr (C : Zx D ca Γ cc own nL R) {x y : Int} {F G : Option ρ} {off : Int} {tgt : Nat} (d : decode cc pc = .ok (.if_icmp .gt off, 3)) (ht : (pc : Int) + off = (tgt : Int)) (hy : zR y) (hf : (if zR x then (if y < x then F else G) else none) = some r) (k1 : F = some r → Zd D Γ k n ws tgt lv st) (k2 : G = some r → Zd D Γ k n ws (pc + 3) lv st) : Zd D Γ k n ws pc lv (.int (zI y) :: .int (zI x) :: st) := by
  intro H locs ls hP hD hS hl
  have hc := zck hf
  obtain ⟨hx, hf⟩ := hc
  refine lv_icmp_gt C.hx C.hb d ht (fun q => ?_) (fun q => ?_)
  · rw [if_pos ((zI_lt hy hx).mp q)] at hf
    exact k1 hf H locs ls hP hD hS hl
  · rw [if_neg (fun z => q ((zI_lt hy hx).mpr z))] at hf
    exact k2 hf H locs ls hP hD hS hl
theorem g_if_gt (C : Zx D ca Γ cc own nL R) {x : Int} {F G : Option ρ} {off : Int} {tgt : Nat} (d : decode cc pc = .ok (.ifCond .gt off, 3)) (ht : (pc : Int) + off = (tgt : Int)) (hf : (if zR x then (if 0 < x then F else G) else none) = some r) (k1 : F = some r → Zd D Γ k n ws tgt lv st) (k2 : G = some r → Zd D Γ k n ws (pc + 3) lv st) : Zd D Γ k n ws pc lv (.int (zI x) :: st) := by
  intro H locs ls hP hD hS hl
  obtain ⟨hx, hf⟩ := zck hf
  refine lv_if_gt C.hx C.hb d ht (fun q => ?_) (fun q => ?_)
  · rw [if_pos ((zI_lt (x := 0) (by decide) hx).mp q)] at hf
    exact k1 hf H locs ls hP hD hS hl
  · rw [if_neg (fun z => q ((zI_lt (x := 0) (by decide) hx).mpr z))] at hf
    exact k2 hf H locs ls hP hD hS hl
theorem g_icmp_le (C : Zx D ca Γ cc own nL R) {x y : Int} {F G : Option ρ} {off : Int} {tgt : Nat} (d : decode cc pc = .ok (.if_icmp .le off, 3)) (ht : (pc : Int) + off = (tgt : Int)) (hf : (if zR x ∧ zR y then (if x ≤ y then F else G) else none) = some r) (k1 : F = some r → Zd D Γ k n ws tgt lv st) (k2 : G = some r → Zd D Γ k n ws (pc + 3) lv st) : Zd D Γ k n ws pc lv (.int (zI y) :: .int (zI x) :: st) := by
  intro H locs ls hP hD hS hl
  have hc := zck hf
  obtain ⟨⟨hx, hy⟩, hf⟩ := hc
  refine lv_icmp_le C.hx C.hb d ht (fun q => ?_) (fun q => ?_)
  · rw [if_pos ((zI_le hx hy).mp q)] at hf
    exact k1 hf H locs ls hP hD hS hl
  · rw [if_neg (fun z => q ((zI_le hx hy).mpr z))] at hf
    exact k2 hf H locs ls hP hD hS hl
theorem g_icmp_ler (C : Zx D ca Γ cc own nL R) {x y : Int} {F G : Option ρ} {off : Int} {tgt : Nat} (d : decode cc pc = .ok (.if_icmp .le off, 3)) (ht : (pc : Int) + off = (tgt : Int)) (hy : zR y) (hf : (if zR x then (if x ≤ y then F else G) else none) = some r) (k1 : F = some r → Zd D Γ k n ws tgt lv st) (k2 : G = some r → Zd D Γ k n ws (pc + 3) lv st) : Zd D Γ k n ws pc lv (.int (zI y) :: .int (zI x) :: st) := by
  intro H locs ls hP hD hS hl
  have hc := zck hf
  obtain ⟨hx, hf⟩ := hc
  refine lv_icmp_le C.hx C.hb d ht (fun q => ?_) (fun q => ?_)
  · rw [if_pos ((zI_le hx hy).mp q)] at hf
    exact k1 hf H locs ls hP hD hS hl
  · rw [if_neg (fun z => q ((zI_le hx hy).mpr z))] at hf
    exact k2 hf H locs ls hP hD hS hl
theorem g_if_le (C : Zx D ca Γ cc own nL R) {x : Int} {F G : Option ρ} {off : Int} {tgt : Nat} (d : decode cc pc = .ok (.ifCond .le off, 3)) (ht : (pc : Int) + off = (tgt : Int)) (hf : (if zR x then (if x ≤ 0 then F else G) else none) = some r) (k1 : F = some r → Zd D Γ k n ws tgt lv st) (k2 : G = some r → Zd D Γ k n ws (pc + 3) lv st) : Zd D Γ k n ws pc lv (.int (zI x) :: st) := by
  intro H locs ls hP hD hS hl
  obtain ⟨hx, hf⟩ := zck hf
  refine lv_if_le C.hx C.hb d ht (fun q => ?_) (fun q => ?_)
  · rw [if_pos ((zI_le (y := 0) hx (by decide)).mp q)] at hf
    exact k1 hf H locs ls hP hD hS hl
  · rw [if_neg (fun z => q ((zI_le (y := 0) hx (by decide)).mpr z))] at hf
    exact k2 hf H locs ls hP hD hS hl
theorem g_goto (C : Zx D ca Γ cc own nL R) {off : Int} {tgt : Nat} (d : decode cc pc = .ok (.goto off, 3)) (ht : (pc : Int) + off = (tgt : Int)) (kk : Zd D Γ k n ws tgt lv st) : Zd D Γ k n ws pc lv st := by
  intro H locs ls hP hD hS hl
  exact lv_goto C.hx C.hb d ht (kk H locs ls hP hD hS hl)
theorem g_dup (C : Zx D ca Γ cc own nL R) {v : Value} (d : decode cc pc = .ok (.dup, 1)) (hv : v.category = 1) (kk : Zd D Γ k n ws (pc + 1) lv (v :: v :: st)) : Zd D Γ k n ws pc lv (v :: st) := by
  intro H locs ls hP hD hS hl
  exact lv_dup C.hx C.hb d hv (kk H locs ls hP hD hS hl)
theorem g_dup2 (C : Zx D ca Γ cc own nL R) {v w : Value} (d : decode cc pc = .ok (.dup2, 1)) (hv : v.category = 1) (hw : w.category = 1) (kk : Zd D Γ k n ws (pc + 1) lv (v :: w :: v :: w :: st)) : Zd D Γ k n ws pc lv (v :: w :: st) := by
  intro H locs ls hP hD hS hl
  exact lv_dup2_11 C.hx C.hb d hv hw (kk H locs ls hP hD hS hl)
theorem g_ifnull (C : Zx D ca Γ cc own nL R) {x : Nat} {off : Int} (d : decode cc pc = .ok (.ifnull off, 3)) (kk : Zd D Γ k n ws (pc + 3) lv st) : Zd D Γ k n ws pc lv (.ref x :: st) := by
  intro H locs ls hP hD hS hl
  exact lv_ifnull C.hx C.hb d (kk H locs ls hP hD hS hl)
theorem g_ifnonnull (C : Zx D ca Γ cc own nL R) {x : Nat} {off : Int} {tgt : Nat} (d : decode cc pc = .ok (.ifnonnull off, 3)) (ht : (pc : Int) + off = (tgt : Int)) (kk : Zd D Γ k n ws tgt lv st) : Zd D Γ k n ws pc lv (.ref x :: st) := by
  intro H locs ls hP hD hS hl
  exact lv_ifnonnull C.hx C.hb d ht (kk H locs ls hP hD hS hl)
theorem g_ifnullN (C : Zx D ca Γ cc own nL R) {off : Int} {tgt : Nat} (d : decode cc pc = .ok (.ifnull off, 3)) (ht : (pc : Int) + off = (tgt : Int)) (kk : Zd D Γ k n ws tgt lv st) : Zd D Γ k n ws pc lv (.null :: st) := by
  intro H locs ls hP hD hS hl
  exact lv_ifnullN C.hx C.hb d ht (kk H locs ls hP hD hS hl)
theorem g_ifnonnullN (C : Zx D ca Γ cc own nL R) {off : Int} (d : decode cc pc = .ok (.ifnonnull off, 3)) (kk : Zd D Γ k n ws (pc + 3) lv st) : Zd D Γ k n ws pc lv (.null :: st) := by
  intro H locs ls hP hD hS hl
  exact lv_ifnonnullN C.hx C.hb d (kk H locs ls hP hD hS hl)
theorem g_tabIn (C : Zx D ca Γ cc own nL R) {x v : Int} {dflt lo hi : Int} {offs : Array Int} {len : Nat} {off : Int} {tgt : Nat} (d : decode cc pc = .ok (.tableswitch dflt lo hi offs, len)) (hx : zR x) (hv : x = v) (h1 : ¬ v < lo) (h2 : ¬ hi < v) (ho : offs[(v - lo).toNat]? = some off) (ht : (pc : Int) + off = (tgt : Int)) (kk : Zd D Γ k n ws tgt lv st) : Zd D Γ k n ws pc lv (.int (zI x) :: st) := by
  intro H locs ls hP hD hS hl
  subst hv
  exact lv_tableIn C.hx C.hb d (by rw [zI_of hx]; exact h1) (by rw [zI_of hx]; exact h2) (by rw [zI_of hx]; exact ho) ht (kk H locs ls hP hD hS hl)
theorem g_tabOut (C : Zx D ca Γ cc own nL R) {x : Int} {dflt lo hi : Int} {offs : Array Int} {len : Nat} {tgt : Nat} (d : decode cc pc = .ok (.tableswitch dflt lo hi offs, len)) (hx : zR x) (h : x < lo ∨ hi < x) (ht : (pc : Int) + dflt = (tgt : Int)) (kk : Zd D Γ k n ws tgt lv st) : Zd D Γ k n ws pc lv (.int (zI x) :: st) := by
  intro H locs ls hP hD hS hl
  exact lv_tableOut C.hx C.hb d (by rw [zI_of hx]; exact h) ht (kk H locs ls hP hD hS hl)
theorem g_look (C : Zx D ca Γ cc own nL R) {x : Int} {dflt : Int} {ps : Array (Int × Int)} {len : Nat} {off : Int} {tgt : Nat} (d : decode cc pc = .ok (.lookupswitch dflt ps, len)) (hx : zR x) (hp : (ps.toList.zip (ps.toList.drop 1)).all (fun (a, next) => a.1 < next.1) = true) (ho : Op.lookupswitch.offset ps.toList dflt x = off) (ht : (pc : Int) + off = (tgt : Int)) (kk : Zd D Γ k n ws tgt lv st) : Zd D Γ k n ws pc lv (.int (zI x) :: st) := by
  intro H locs ls hP hD hS hl
  exact lv_lookup C.hx C.hb d hp (by rw [zI_of hx]; exact ho) ht (kk H locs ls hP hD hS hl)
/-- a field that an instruction of own names by a place of its pool -/
def Zf (own : String) (idx ci fk : Nat) (Cn : String) (T : u_T) (N : Nat) : Prop := (∀ w ∈ u_ws Cn T N, w ∈ zW) ∧ vwCl[ci]? = some (Cn, T, N) ∧ fk < N ∧ Cond.fieldLink own idx Cn (T fk).2.1 (T fk).2.2.1 ∈ zW ∧ (T fk).1 = Cn
theorem g_get (C : Zx D ca Γ cc own nL R) {idx ci fk N a : Nat} {Cn : String} {T : u_T} (f : Zf own idx ci fk Cn T N) (q : Nat) {fs : List Value} {v : Value} (he : ws[q]? = some (a, .inr (ci, fs))) (hv : fs[fk]? = some v) (d : decode cc pc = .ok (.getfield idx, 3)) (kk : Zd D Γ k n ws (pc + 3) lv (v :: st)) : Zd D Γ k n ws pc lv (.ref a :: st) := by
  intro H locs ls hP hD hS hl
  obtain ⟨f1, f2, f3, f4, f5⟩ := f
  exact va_get C.hx C.hb C.ht f1 C.ho C.hK hP q he f2 fk f3 (C.ht _ f4) (fun x hx => by rw [f5] at hx; exact hx) hv d (kk H locs ls hP hD hS hl)
theorem g_put (C : Zx D ca Γ cc own nL R) {idx ci fk N a : Nat} {Cn : String} {T : u_T} (f : Zf own idx ci fk Cn T N) (ty0 : Nat → FieldType) (hty : ∀ k, k < N → parseFieldDescriptor (T k).2.2.1 = some (ty0 k)) (hnm : ∀ a, a < N → ∀ b, b < N → a ≠ b → (T a).2.1 ≠ (T b).2.1) (q : Nat) {fs fs' : List Value} {ws' : va_W} {ty : FieldType} {v : Value} (he : ws[q]? = some (a, .inr (ci, fs))) (hfin : (T fk).2.2.2 = false) (hd : ty0 fk = ty) (hn : narrow ty v = v) (hfit : fits ty v = true) (hl0 : fk < fs.length) (hs : fs.set fk v = fs') (hw : ws.set q (a, .inr (ci, fs')) = ws') (d : decode cc pc = .ok (.putfield idx, 3)) (kk : Zd D Γ k n ws' (pc + 3) lv st) : Zd D Γ k n ws pc lv (v :: .ref a :: st) := by
  intro H locs ls hP hD hS hl
  obtain ⟨f1, f2, f3, f4, f5⟩ := f
  refine va_put C.hx C.hb C.ht f1 ty0 hty hnm C.ho C.hK hP hD hS q he f2 fk f3 (C.ht _ f4) (fun x hx => by rw [f5] at hx; exact hx) hfin (by rw [← hd]; exact hty fk f3) hn hfit hl0 d (fun H locs hP hD hS => ?_)
  subst hs
  subst hw
  exact kk H locs ls hP hD hS hl
theorem g_iald (C : Zx D ca Γ cc own nL R) {x N : Int} {na a : Nat} {f : Nat → Int} {F : Option ρ} (q : Nat) (he : ws[q]? = some (a, .inl (ca 0, na, .inl (zA f)))) (hN : N = (na : Int)) (hb : na < 2147483648) (d : decode cc pc = .ok (.iaload, 1)) (hf : (if 0 ≤ x ∧ x < N then F else none) = some r) (kk : F = some r → Zd D Γ k n ws (pc + 1) lv (.int (zI (f x.toNat)) :: st)) : Zd D Γ k n ws pc lv (.int (zI x) :: .ref a :: st) := by
  intro H locs ls hP hD hS hl
  subst hN
  obtain ⟨hc, hf2⟩ := zck hf
  have hR : zR x := by omega
  refine va_iald C.hx C.hb C.hK hP q 0 he rfl (zI_vin hc.1 hc.2 hR) d ?_
  rw [zI_clamp hc.1 hR]
  exact kk hf2 H locs ls hP hD hS hl
theorem g_bald (C : Zx D ca Γ cc own nL R) {x N : Int} {na a : Nat} {f : Nat → Int} {F : Option ρ} (q : Nat) (he : ws[q]? = some (a, .inl (ca 1, na, .inl (zA f)))) (hN : N = (na : Int)) (hb : na < 2147483648) (d : decode cc pc = .ok (.baload, 1)) (hf : (if 0 ≤ x ∧ x < N then F else none) = some r) (kk : F = some r → Zd D Γ k n ws (pc + 1) lv (.int (zI (f x.toNat)) :: st)) : Zd D Γ k n ws pc lv (.int (zI x) :: .ref a :: st) := by
  intro H locs ls hP hD hS hl
  subst hN
  obtain ⟨hc, hf2⟩ := zck hf
  have hR : zR x := by omega
  refine va_bald C.hx C.hb C.hK hP q 1 he rfl (zI_vin hc.1 hc.2 hR) d ?_
  rw [zI_clamp hc.1 hR]
  exact kk hf2 H locs ls hP hD hS hl
theorem g_zald (C : Zx D ca Γ cc own nL R) {x N : Int} {na a : Nat} {f : Nat → Int} {F : Option ρ} (q : Nat) (he : ws[q]? = some (a, .inl (ca 3, na, .inl (zA f)))) (hN : N = (na : Int)) (hb : na < 2147483648) (d : decode cc pc = .ok (.baload, 1)) (hf : (if 0 ≤ x ∧ x < N then F else none) = some r) (kk : F = some r → Zd D Γ k n ws (pc + 1) lv (.int (zI (f x.toNat)) :: st)) : Zd D Γ k n ws pc lv (.int (zI x) :: .ref a :: st) := by
  intro H locs ls hP hD hS hl
  subst hN
  obtain ⟨hc, hf2⟩ := zck hf
  have hR : zR x := by omega
  refine va_zald C.hx C.hb C.hK hP q 3 he rfl (zI_vin hc.1 hc.2 hR) d ?_
  rw [zI_clamp hc.1 hR]
  exact kk hf2 H locs ls hP hD hS hl
theorem g_lald (C : Zx D ca Γ cc own nL R) {x N : Int} {na a : Nat} {f : Nat → Int} {F : Option ρ} (q : Nat) (he : ws[q]? = some (a, .inl (ca 2, na, .inr (.inl (zB f))))) (hN : N = (na : Int)) (d : decode cc pc = .ok (.laload, 1)) (hf : (if (0 ≤ x ∧ x < N) ∧ zR x then F else none) = some r) (kk : F = some r → Zd D Γ k n ws (pc + 1) lv (.long (zJ (f x.toNat)) :: st)) : Zd D Γ k n ws pc lv (.int (zI x) :: .ref a :: st) := by
  intro H locs ls hP hD hS hl
  subst hN
  obtain ⟨hc, hf2⟩ := zck hf
  obtain ⟨hc, hR⟩ := hc
  refine va_lald C.hx C.hb C.hK hP q 2 he rfl (zI_vin hc.1 hc.2 hR) d ?_
  rw [zI_clamp hc.1 hR]
  exact kk hf2 H locs ls hP hD hS hl
theorem g_iast (C : Zx D ca Γ cc own nL R) {x v N : Int} {na a : Nat} {f : Nat → Int} {F : Option ρ} {ws' : va_W} (q : Nat) (he : ws[q]? = some (a, .inl (ca 0, na, .inl (zA f)))) (hN : N = (na : Int)) (hb : na < 2147483648) (hw : ws.set q (a, .inl (ca 0, na, .inl (zA (zU f x.toNat v)))) = ws') (d : decode cc pc = .ok (.iastore, 1)) (hf : (if 0 ≤ x ∧ x < N then F else none) = some r) (kk : F = some r → Zd D Γ k n ws' (pc + 1) lv st) : Zd D Γ k n ws pc lv (.int (zI v) :: .int (zI x) :: .ref a :: st) := by
  intro H locs ls hP hD hS hl
  subst hN
  obtain ⟨hc, hf2⟩ := zck hf
  have hR : zR x := by omega
  refine va_iast C.hx C.hb C.hK hP hD hS q 0 he rfl (zI_vin hc.1 hc.2 hR) d (fun H locs hP hD hS => ?_)
  rw [zI_clamp hc.1 hR, zA_upd] at hP hD
  subst hw
  exact kk hf2 H locs ls hP hD hS hl
theorem g_bast (C : Zx D ca Γ cc own nL R) {x v N : Int} {na a : Nat} {f : Nat → Int} {F : Option ρ} {ws' : va_W} (q : Nat) (he : ws[q]? = some (a, .inl (ca 1, na, .inl (zA f)))) (hN : N = (na : Int)) (hb : na < 2147483648) (hv : vp_nar .byte (zI v) = zI v) (hw : ws.set q (a, .inl (ca 1, na, .inl (zA (zU f x.toNat v)))) = ws') (d : decode cc pc = .ok (.bastore, 1)) (hf : (if 0 ≤ x ∧ x < N then F else none) = some r) (kk : F = some r → Zd D Γ k n ws' (pc + 1) lv st) : Zd D Γ k n ws pc lv (.int (zI v) :: .int (zI x) :: .ref a :: st) := by
  intro H locs ls hP hD hS hl
  subst hN
  obtain ⟨hc, hf2⟩ := zck hf
  have hR : zR x := by omega
  refine va_bast C.hx C.hb C.hK hP hD hS q 1 he rfl (zI_vin hc.1 hc.2 hR) d (fun H locs hP hD hS => ?_)
  rw [zI_clamp hc.1 hR, hv, zA_upd] at hP hD
  subst hw
  exact kk hf2 H locs ls hP hD hS hl
theorem g_zast (C : Zx D ca Γ cc own nL R) {x v N : Int} {na a : Nat} {f : Nat → Int} {F : Option ρ} {ws' : va_W} (q : Nat) (he : ws[q]? = some (a, .inl (ca 3, na, .inl (zA f)))) (hN : N = (na : Int)) (hb : na < 2147483648) (hv : vp_nar .boolean (zI v) = zI v) (hw : ws.set q (a, .inl (ca 3, na, .inl (zA (zU f x.toNat v)))) = ws') (d : decode cc pc = .ok (.bastore, 1)) (hf : (if 0 ≤ x ∧ x < N then F else none) = some r) (kk : F = some r → Zd D Γ k n ws' (pc + 1) lv st) : Zd D Γ k n ws pc lv (.int (zI v) :: .int (zI x) :: .ref a :: st) := by
  intro H locs ls hP hD hS hl
  subst hN
  obtain ⟨hc, hf2⟩ := zck hf
  have hR : zR x := by omega
  refine va_zast C.hx C.hb C.hK hP hD hS q 3 he rfl (zI_vin hc.1 hc.2 hR) d (fun H locs hP hD hS => ?_)
  rw [zI_clamp hc.1 hR, hv, zA_upd] at hP hD
  subst hw
  exact kk hf2 H locs ls hP hD hS hl
theorem g_last (C : Zx D ca Γ cc own nL R) {x v N : Int} {na a : Nat} {f : Nat → Int} {F : Option ρ} {ws' : va_W} (q : Nat) (he : ws[q]? = some (a, .inl (ca 2, na, .inr (.inl (zB f))))) (hN : N = (na : Int)) (hw : ws.set q (a, .inl (ca 2, na, .inr (.inl (zB (zU f x.toNat v))))) = ws') (d : decode cc pc = .ok (.lastore, 1)) (hf : (if (0 ≤ x ∧ x < N) ∧ zR x then F else none) = some r) (kk : F = some r → Zd D Γ k n ws' (pc + 1) lv st) : Zd D Γ k n ws pc lv (.long (zJ v) :: .int (zI x) :: .ref a :: st) := by
  intro H locs ls hP hD hS hl
  subst hN
  obtain ⟨hc, hf2⟩ := zck hf
  obtain ⟨hc, hR⟩ := hc
  refine va_last C.hx C.hb C.hK hP hD hS q 2 he rfl (zI_vin hc.1 hc.2 hR) d (fun H locs hP hD hS => ?_)
  rw [zI_clamp hc.1 hR, zB_upd] at hP hD
  subst hw
  exact kk hf2 H locs ls hP hD hS hl
theorem g_alen (C : Zx D ca Γ cc own nL R) {na a t : Nat} {cA : ClassId} {x : (Nat → Int32) ⊕ (Nat → Int64) ⊕ (Nat → UInt32) ⊕ (Nat → UInt64) ⊕ (Nat → Option Nat)} {ty : FieldType} {N : Int} (q : Nat) (he : ws[q]? = some (a, .inl (cA, na, x))) (ht : (zT ca)[t]? = some (cA, ty)) (hN : N = (na : Int)) (d : decode cc pc = .ok (.arraylength, 1)) (kk : Zd D Γ k n ws (pc + 1) lv (.int (zI N) :: st)) : Zd D Γ k n ws pc lv (.ref a :: st) := by
  intro H locs ls hP hD hS hl
  subst hN
  exact va_alen C.hx C.hb C.hK hP q t he ht (zI_nat na) d (kk H locs ls hP hD hS hl)
theorem g_ialdK (C : Zx D ca Γ cc own nL R) {x : Int} {na a : Nat} {f : Nat → Int} (j q : Nat) (he : ws[q]? = some (a, .inl (ca 0, na, .inl (zA f)))) (hj : x = (j : Int)) (hlt : j < na) (hb : na < 2147483648) (d : decode cc pc = .ok (.iaload, 1)) (kk : Zd D Γ k n ws (pc + 1) lv (.int (zI (f j)) :: st)) : Zd D Γ k n ws pc lv (.int (zI x) :: .ref a :: st) := by
  intro H locs ls hP hD hS hl
  subst hj
  have hR : zR (j : Int) := by omega
  refine va_iald C.hx C.hb C.hK hP q 0 he rfl (zI_vin (by omega) (by omega) hR) d ?_
  rw [zI_clamp (by omega) hR, Int.toNat_natCast]
  exact kk H locs ls hP hD hS hl
theorem g_baldK (C : Zx D ca Γ cc own nL R) {x : Int} {na a : Nat} {f : Nat → Int} (j q : Nat) (he : ws[q]? = some (a, .inl (ca 1, na, .inl (zA f)))) (hj : x = (j : Int)) (hlt : j < na) (hb : na < 2147483648) (d : decode cc pc = .ok (.baload, 1)) (kk : Zd D Γ k n ws (pc + 1) lv (.int (zI (f j)) :: st)) : Zd D Γ k n ws pc lv (.int (zI x) :: .ref a :: st) := by
  intro H locs ls hP hD hS hl
  subst hj
  have hR : zR (j : Int) := by omega
  refine va_bald C.hx C.hb C.hK hP q 1 he rfl (zI_vin (by omega) (by omega) hR) d ?_
  rw [zI_clamp (by omega) hR, Int.toNat_natCast]
  exact kk H locs ls hP hD hS hl
theorem g_zaldK (C : Zx D ca Γ cc own nL R) {x : Int} {na a : Nat} {f : Nat → Int} (j q : Nat) (he : ws[q]? = some (a, .inl (ca 3, na, .inl (zA f)))) (hj : x = (j : Int)) (hlt : j < na) (hb : na < 2147483648) (d : decode cc pc = .ok (.baload, 1)) (kk : Zd D Γ k n ws (pc + 1) lv (.int (zI (f j)) :: st)) : Zd D Γ k n ws pc lv (.int (zI x) :: .ref a :: st) := by
  intro H locs ls hP hD hS hl
  subst hj
  have hR : zR (j : Int) := by omega
  refine va_zald C.hx C.hb C.hK hP q 3 he rfl (zI_vin (by omega) (by omega) hR) d ?_
  rw [zI_clamp (by omega) hR, Int.toNat_natCast]
  exact kk H locs ls hP hD hS hl
theorem g_iastK (C : Zx D ca Γ cc own nL R) {x v : Int} {na a : Nat} {f : Nat → Int} {ws' : va_W} (j q : Nat) (he : ws[q]? = some (a, .inl (ca 0, na, .inl (zA f)))) (hj : x = (j : Int)) (hlt : j < na) (hb : na < 2147483648) (hw : ws.set q (a, .inl (ca 0, na, .inl (zA (zU f j v)))) = ws') (d : decode cc pc = .ok (.iastore, 1)) (kk : Zd D Γ k n ws' (pc + 1) lv st) : Zd D Γ k n ws pc lv (.int (zI v) :: .int (zI x) :: .ref a :: st) := by
  intro H locs ls hP hD hS hl
  subst hj
  have hR : zR (j : Int) := by omega
  refine va_iast C.hx C.hb C.hK hP hD hS q 0 he rfl (zI_vin (by omega) (by omega) hR) d (fun H locs hP hD hS => ?_)
  rw [zI_clamp (by omega) hR, Int.toNat_natCast, zA_upd] at hP hD
  subst hw
  exact kk H locs ls hP hD hS hl
theorem g_bastK (C : Zx D ca Γ cc own nL R) {x v : Int} {na a : Nat} {f : Nat → Int} {ws' : va_W} (j q : Nat) (he : ws[q]? = some (a, .inl (ca 1, na, .inl (zA f)))) (hj : x = (j : Int)) (hlt : j < na) (hb : na < 2147483648) (hv : vp_nar .byte (zI v) = zI v) (hw : ws.set q (a, .inl (ca 1, na, .inl (zA (zU f j v)))) = ws') (d : decode cc pc = .ok (.bastore, 1)) (kk : Zd D Γ k n ws' (pc + 1) lv st) : Zd D Γ k n ws pc lv (.int (zI v) :: .int (zI x) :: .ref a :: st) := by
  intro H locs ls hP hD hS hl
  subst hj
  have hR : zR (j : Int) := by omega
  refine va_bast C.hx C.hb C.hK hP hD hS q 1 he rfl (zI_vin (by omega) (by omega) hR) d (fun H locs hP hD hS => ?_)
  rw [zI_clamp (by omega) hR, Int.toNat_natCast, hv, zA_upd] at hP hD
  subst hw
  exact kk H locs ls hP hD hS hl
theorem g_zastK (C : Zx D ca Γ cc own nL R) {x v : Int} {na a : Nat} {f : Nat → Int} {ws' : va_W} (j q : Nat) (he : ws[q]? = some (a, .inl (ca 3, na, .inl (zA f)))) (hj : x = (j : Int)) (hlt : j < na) (hb : na < 2147483648) (hv : vp_nar .boolean (zI v) = zI v) (hw : ws.set q (a, .inl (ca 3, na, .inl (zA (zU f j v)))) = ws') (d : decode cc pc = .ok (.bastore, 1)) (kk : Zd D Γ k n ws' (pc + 1) lv st) : Zd D Γ k n ws pc lv (.int (zI v) :: .int (zI x) :: .ref a :: st) := by
  intro H locs ls hP hD hS hl
  subst hj
  have hR : zR (j : Int) := by omega
  refine va_zast C.hx C.hb C.hK hP hD hS q 3 he rfl (zI_vin (by omega) (by omega) hR) d (fun H locs hP hD hS => ?_)
  rw [zI_clamp (by omega) hR, Int.toNat_natCast, hv, zA_upd] at hP hD
  subst hw
  exact kk H locs ls hP hD hS hl
theorem g_copyi (C : Zx D ca Γ cc own nL R) {sp dp cn N0 N1 : Int} {a0 a1 n0 n1 i : Nat} {f g : Nat → Int} {F : Option ρ} {ws' : va_W} (hw1 : Cond.methodLink own i arraycopyName ∈ zW) (hfr : 1 ≤ R.frames) (hlo : (st.map fun v => v.category).sum + (nativeFrameWords "java/lang/System" "arraycopy" 5 + 11) ≤ R.locals) (q0 q1 : Nat) (he0 : ws[q0]? = some (a0, .inl (ca 0, n0, .inl (zA f)))) (he1 : ws[q1]? = some (a1, .inl (ca 0, n1, .inl (zA g)))) (hN0 : N0 = (n0 : Int)) (hN1 : N1 = (n1 : Int)) (hb0 : n0 < 2147483648) (hb1 : n1 < 2147483648) (hw : ws.set q1 (a1, .inl (ca 0, n1, .inl (zA (zcp f g sp.toNat dp.toNat cn.toNat)))) = ws') (d : decode cc pc = .ok (.invokestatic i, 3)) (hf : (if (0 ≤ sp ∧ 0 ≤ dp ∧ 0 ≤ cn) ∧ sp + cn ≤ N0 ∧ dp + cn ≤ N1 then F else none) = some r) (kk : F = some r → Zd D Γ k n ws' (pc + 3) lv st) : Zd D Γ k n ws pc lv (.int (zI cn) :: .int (zI dp) :: .ref a1 :: .int (zI sp) :: .ref a0 :: st) := by
  intro H locs ls hP hD hS hl
  subst hN0
  subst hN1
  obtain ⟨⟨⟨h1, h2, h3⟩, h4, h5⟩, hf2⟩ := zck hf
  have r1 : zR sp := by omega
  have r2 : zR dp := by omega
  have r3 : zR cn := by omega
  have ng : ∀ {x : Int}, 0 ≤ x → zR x → ¬ zI x < 0 := fun h0 hr q => by
    have := (zI_lt hr (y := 0) (by decide)).mp q
    omega
  refine va_copyi C.hx C.hb (by rw [C.hml, hl.1]) C.ho (C.ht _ hw1) (C.ht _ wna_copy) (C.ht _ wst_copy) (C.ht _ win_RJ10) C.hK hP hD hS q0 q1 0 0 he0 he1 rfl rfl rfl (ng h1 r1) (ng h2 r2) (ng h3 r3) (by rw [zI_clamp h1 r1, zI_clamp h3 r3]; omega) (by rw [zI_clamp h2 r2, zI_clamp h3 r3]; omega) (fun _ _ => rfl) (by rw [C.hR]; exact hfr) (by rw [C.hR]; exact hlo) d (fun H locs hP hD hS => ?_)
  rw [zI_clamp h1 r1, zI_clamp h2 r2, zI_clamp h3 r3, zA_cpy] at hP hD
  subst hw
  exact kk hf2 H locs ls hP hD hS hl
theorem g_mmax (C : Zx D ca Γ cc own nL R) {x y : Int} {i : Nat} {F : Option ρ} (hw : Cond.methodLink own i Lib.Math.max.name ∈ zW) (hfr : 1 ≤ R.frames) (hlo : (st.map fun v => v.category).sum + 13 ≤ R.locals) (hc : k ≤ R.cells) (hs : n ≤ R.slots) (d : decode cc pc = .ok (.invokestatic i, 3)) (hf : (if zR x ∧ zR y then F else none) = some r) (kk : F = some r → Zd D Γ k n ws (pc + 3) lv (.int (zI (max x y)) :: st)) : Zd D Γ k n ws pc lv (.int (zI y) :: .int (zI x) :: st) := by
  intro H locs ls hP hD hS hl
  obtain ⟨hc2, hf⟩ := zck hf
  refine va_mmax C.hx C.hb (by rw [C.hml, hl.1]) C.ho (C.ht _ hw) (C.ht _ wst_Math_max) (C.ht _ win_RJ9) (C.ht _ wco_Math_max) (by rw [C.hR]; exact hfr) (by rw [C.hR]; exact hlo) (by rw [C.hR]; exact hc) (by rw [C.hR]; exact hs) d ?_
  rw [zI_max hc2.1 hc2.2]
  exact kk hf H locs ls hP hD hS hl
theorem g_mmin (C : Zx D ca Γ cc own nL R) {x y : Int} {i : Nat} {F : Option ρ} (hw : Cond.methodLink own i Lib.Math.min.name ∈ zW) (hfr : 1 ≤ R.frames) (hlo : (st.map fun v => v.category).sum + 13 ≤ R.locals) (hc : k ≤ R.cells) (hs : n ≤ R.slots) (d : decode cc pc = .ok (.invokestatic i, 3)) (hf : (if zR x ∧ zR y then F else none) = some r) (kk : F = some r → Zd D Γ k n ws (pc + 3) lv (.int (zI (min x y)) :: st)) : Zd D Γ k n ws pc lv (.int (zI y) :: .int (zI x) :: st) := by
  intro H locs ls hP hD hS hl
  obtain ⟨hc2, hf⟩ := zck hf
  refine va_mmin C.hx C.hb (by rw [C.hml, hl.1]) C.ho (C.ht _ hw) (C.ht _ wst_Math_min) (C.ht _ win_RJ9) (C.ht _ wco_Math_min) (by rw [C.hR]; exact hfr) (by rw [C.hR]; exact hlo) (by rw [C.hR]; exact hc) (by rw [C.hR]; exact hs) d ?_
  rw [zI_min hc2.1 hc2.2]
  exact kk hf H locs ls hP hD hS hl
theorem g_mminl (C : Zx D ca Γ cc own nL R) {x y : Int} {i : Nat} {F : Option ρ} (hw : Cond.methodLink own i Lib.MathLoose.min_long.x ∈ zW) (hfr : 1 ≤ R.frames) (hlo : (st.map fun v => v.category).sum + 15 ≤ R.locals) (hc : k ≤ R.cells) (hs : n ≤ R.slots) (d : decode cc pc = .ok (.invokestatic i, 3)) (hf : (if zRJ x ∧ zRJ y then F else none) = some r) (kk : F = some r → Zd D Γ k n ws (pc + 3) lv (.long (zJ (min x y)) :: st)) : Zd D Γ k n ws pc lv (.long (zJ y) :: .long (zJ x) :: st) := by
  intro H locs ls hP hD hS hl
  obtain ⟨hc2, hf⟩ := zck hf
  refine va_mmin_long C.hx C.hb (by rw [C.hml, hl.1]) C.ho (C.ht _ hw) (C.ht _ wst_Math_minl) (C.ht _ win_RJ9) (C.ht _ wco_Math_minl) (by rw [C.hR]; exact hfr) (by rw [C.hR]; exact hlo) (by rw [C.hR]; exact hc) (by rw [C.hR]; exact hs) d ?_
  rw [zJ_min hc2.1 hc2.2]
  exact kk hf H locs ls hP hD hS hl
theorem g_sub {ws' : va_W} {lv' : List (Nat × Value)} (is js : List Nat) (hn : va_nd is = true) (hw : is.filterMap (fun i => ws[i]?) = ws') (hwm : is.map (fun i => ws[i]?) = ws'.map some) (hv : lv_pick lv js = lv') (kk : Zd D Γ k n ws' pc lv' st) : Zd D Γ k n ws pc lv st := by
  intro H locs ls hP hD hS hl
  exact kk H locs ls (hP.sub is hw) (hD.sub is hn hwm) hS (lv_sub hl js hv)
theorem g_wid {k' n' : Nat} (h1 : k ≤ k') (h2 : n ≤ n') (kk : Zd D Γ k' n' ws pc lv st) : Zd D Γ k n ws pc lv st := by
  intro H locs ls hP hD hS hl
  exact W.widen h1 h2 (kk H locs ls hP hD hS hl)
end ZROWS
