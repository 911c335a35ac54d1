/-! the numbers of the pure pictures: an int is an Int, its cell is zI of it; checks stand in the pictures where the machine looks -/
abbrev zR (x : Int) : Prop := -2147483648 ≤ x ∧ x ≤ 2147483647
abbrev zRJ (x : Int) : Prop := -9223372036854775808 ≤ x ∧ x ≤ 9223372036854775807
def zI (x : Int) : Int32 := Int32.ofInt x
def zJ (x : Int) : Int64 := Int64.ofInt x
def zA (f : Nat → Int) : Nat → Int32 := fun k => zI (f k)
def zB (f : Nat → Int) : Nat → Int64 := fun k => zJ (f k)
def zU (f : Nat → Int) (k : Nat) (v : Int) : Nat → Int := fun j => if j = k then v else f j
def zcp (f g : Nat → Int) (sp dp n : Nat) : Nat → Int := fun k => if dp ≤ k ∧ k < dp + n then f (sp + (k - dp)) else g k
def zlp {σ ρ : Type} (B : (σ → Option ρ) → σ → Option ρ) : Nat → σ → Option ρ
  | 0, _ => none
  | n + 1, s => B (zlp B n) s
def zand (x y : Int) : Int := (zI x &&& zI y).toInt
def zshr (x y : Int) : Int := (zI x >>> (zI y &&& 31)).toInt
def zshl (x y : Int) : Int := (zI x <<< (zI y &&& 31)).toInt
def zushr (x y : Int) : Int := ((zI x).toUInt32 >>> ((zI y).toUInt32 &&& Int32.toUInt32 31)).toInt32.toInt
def zi2b (x : Int) : Int := (zI x).toInt8.toInt32.toInt
def zlshr (x y : Int) : Int := (zJ x >>> ((zI y).toInt64 &&& 63)).toInt
def zcmp (x y : Int) : Int := if y < x then 1 else if x = y then 0 else -1
theorem zI_toInt (v : Int32) : zI v.toInt = v := Int32.ofInt_toInt v
theorem zJ_toInt (v : Int64) : zJ v.toInt = v := Int64.ofInt_toInt v
theorem zI_of {x : Int} (h : zR x) : (zI x).toInt = x := Int32.toInt_ofInt_of_le (by omega) (by omega)
theorem zJ_of {x : Int} (h : zRJ x) : (zJ x).toInt = x := Int64.toInt_ofInt_of_le (by omega) (by omega)
theorem zI_add (x y : Int) : zI x + zI y = zI (x + y) := (Int32.ofInt_add x y).symm
theorem zI_sub (x y : Int) : zI x - zI y = zI (x - y) := (Int32.ofInt_sub x y).symm
theorem zI_mul (x y : Int) : zI x * zI y = zI (x * y) := (Int32.ofInt_mul x y).symm
theorem zJ_add (x y : Int) : zJ x + zJ y = zJ (x + y) := (Int64.ofInt_add x y).symm
theorem zJ_sub (x y : Int) : zJ x - zJ y = zJ (x - y) := (Int64.ofInt_sub x y).symm
theorem zJ_mul (x y : Int) : zJ x * zJ y = zJ (x * y) := (Int64.ofInt_mul x y).symm
theorem zI_lt {x y : Int} (hx : zR x) (hy : zR y) : zI x < zI y ↔ x < y := by
  rw [Int32.lt_iff_toInt_lt, zI_of hx, zI_of hy]
theorem zI_le {x y : Int} (hx : zR x) (hy : zR y) : zI x ≤ zI y ↔ x ≤ y := by
  rw [Int32.le_iff_toInt_le, zI_of hx, zI_of hy]
theorem zI_eq {x y : Int} (hx : zR x) (hy : zR y) : zI x = zI y ↔ x = y := by
  rw [← Int32.toInt_inj, zI_of hx, zI_of hy]
theorem zJ_lt {x y : Int} (hx : zRJ x) (hy : zRJ y) : zJ x < zJ y ↔ x < y := by
  rw [Int64.lt_iff_toInt_lt, zJ_of hx, zJ_of hy]
theorem zJ_eq {x y : Int} (hx : zRJ x) (hy : zRJ y) : zJ x = zJ y ↔ x = y := by
  rw [← Int64.toInt_inj, zJ_of hx, zJ_of hy]
theorem zI_0 : zI 0 = 0 := rfl
theorem zI_div {x y : Int} (hx : zR x) (hy : zR y) (h : ¬ (x = -2147483648 ∧ y = -1)) : zI x / zI y = zI (x.tdiv y) := by
  rw [← Int32.toInt_inj]
  have e : (zI x / zI y).toInt = x.tdiv y := by
    by_cases hm : x = -2147483648
    · rw [Int32.toInt_div_of_ne_right _ _ (fun q => h ⟨hm, by
        have := congrArg Int32.toInt q
        rw [zI_of hy] at this
        exact this⟩), zI_of hx, zI_of hy]
    · rw [Int32.toInt_div_of_ne_left _ _ (fun q => hm (by
        have := congrArg Int32.toInt q
        rw [zI_of hx] at this
        exact this)), zI_of hx, zI_of hy]
  rw [e, zI_of]
  rw [← e]
  have h1 := Int32.toInt_lt (zI x / zI y)
  have h2 := Int32.le_toInt (zI x / zI y)
  omega
theorem zI_rem {x y : Int} (hx : zR x) (hy : zR y) (h : ¬ (x = -2147483648 ∧ y = -1)) : zI x - zI x / zI y * zI y = zI (x - x.tdiv y * y) := by
  rw [zI_div hx hy h, zI_mul, zI_sub]
theorem zI_i2l {x : Int} (h : zR x) : (zI x).toInt64 = zJ x := by
  rw [← Int64.toInt_inj, Int32.toInt_toInt64, zI_of h, zJ_of (by omega)]
theorem zI_clamp {x : Int} (h0 : 0 ≤ x) (h : zR x) : (zI x).toNatClampNeg = x.toNat := by
  show (zI x).toInt.toNat = _
  rw [zI_of h]
theorem zI_vin {x : Int} {n : Nat} (h0 : 0 ≤ x) (h1 : x < (n : Int)) (h : zR x) : vp_in (zI x) n := by
  rw [vp_in_iff, zI_of h]
  exact ⟨h0, h1⟩
theorem zI_nat (n : Nat) : Int32.ofNat n = zI (n : Int) := rfl
theorem zA_upd (f : Nat → Int) (k : Nat) (v : Int) : upd (zA f) k (zI v) = zA (zU f k v) := by
  funext j
  unfold upd zA zU
  split <;> rfl
theorem zB_upd (f : Nat → Int) (k : Nat) (v : Int) : vp_updL (zB f) k (zJ v) = zB (zU f k v) := by
  funext j
  unfold vp_updL zB zU
  split <;> rfl
theorem zA_cpy (f g : Nat → Int) (sp dp n : Nat) : va_cpy (zA f) (zA g) sp dp n = zA (zcp f g sp dp n) := by
  funext j
  unfold va_cpy zA zcp
  split <;> rfl
theorem zU_s (f : Nat → Int) (k : Nat) (v : Int) : zU f k v k = v := by simp [zU]
theorem zU_n {f : Nat → Int} {k j : Nat} {v : Int} (h : j ≠ k) : zU f k v j = f j := by simp [zU, h]
theorem zand_I (x y : Int) : zI x &&& zI y = zI (zand x y) := (zI_toInt _).symm
theorem zshr_I (x y : Int) : zI x >>> (zI y &&& 31) = zI (zshr x y) := (zI_toInt _).symm
theorem zshl_I (x y : Int) : zI x <<< (zI y &&& 31) = zI (zshl x y) := (zI_toInt _).symm
theorem zushr_I (x y : Int) : ((zI x).toUInt32 >>> ((zI y).toUInt32 &&& Int32.toUInt32 31)).toInt32 = zI (zushr x y) := (zI_toInt _).symm
theorem zi2b_I (x : Int) : (zI x).toInt8.toInt32 = zI (zi2b x) := (zI_toInt _).symm
theorem zlshr_J (x y : Int) : zJ x >>> ((zI y).toInt64 &&& 63) = zJ (zlshr x y) := (zJ_toInt _).symm
theorem zcmp_I {x y : Int} (hx : zRJ x) (hy : zRJ y) : lg_cmp (zJ x) (zJ y) = zI (zcmp x y) := by
  unfold lg_cmp zcmp
  simp only [gt_iff_lt, zJ_lt hy hx, zJ_eq hx hy]
  split
  · rfl
  · split <;> rfl
theorem zI_max {x y : Int} (hx : zR x) (hy : zR y) : (if zI x < zI y then zI y else zI x) = zI (max x y) := by
  simp only [zI_lt hx hy]
  split
  · rw [Int.max_eq_right (by omega)]
  · rw [Int.max_eq_left (by omega)]
theorem zI_min {x y : Int} (hx : zR x) (hy : zR y) : (if zI y < zI x then zI y else zI x) = zI (min x y) := by
  simp only [zI_lt hy hx]
  split
  · rw [Int.min_eq_right (by omega)]
  · rw [Int.min_eq_left (by omega)]
theorem zJ_min {x y : Int} (hx : zRJ x) (hy : zRJ y) : (if zJ y < zJ x then zJ y else zJ x) = zJ (min x y) := by
  simp only [zJ_lt hy hx]
  split
  · rw [Int.min_eq_right (by omega)]
  · rw [Int.min_eq_left (by omega)]
theorem zlp_0 {σ ρ : Type} (B : (σ → Option ρ) → σ → Option ρ) (s : σ) : zlp B 0 s = none := rfl
theorem zlp_s {σ ρ : Type} (B : (σ → Option ρ) → σ → Option ρ) (n : Nat) (s : σ) : zlp B (n + 1) s = B (zlp B n) s := rfl
theorem zno {ρ : Type} {r : ρ} {P : Prop} (h : (none : Option ρ) = some r) : P := by cases h
theorem zck {ρ : Type} {c : Prop} [Decidable c] {F : Option ρ} {r : ρ} (h : (if c then F else none) = some r) : c ∧ F = some r := by
  split at h
  · exact ⟨by assumption, h⟩
  · cases h
def zF : Nat := 30000
theorem zi2b_nar (x : Int) : vp_nar .byte (zI (zi2b x)) = zI (zi2b x) := by
  rw [← zi2b_I]
  exact pk_vb (zI x)
theorem zbool {x : Int} (h : x = 0 ∨ x = 1) : narrow .boolean (.int (zI x)) = .int (zI x) := by
  rcases h with rfl | rfl <;> decide
