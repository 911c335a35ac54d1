/-! The claim is false as written: a start that its premises allow, in which the static array AT_FIRST lies in a cell of kind "array of int" that is not of "[I", and whose clone throws. -/
def zz_clone : Method := Lib.HandJ.method "clone" "()Ljava/lang/Object;" [] (some (.object "java/lang/Object")) 0x1 1 (.mk #[0x2a, 0xbf])
def zz_odd : Class := { start1.cArr "zz" 17 .int with methods := #[zz_clone] }
def zz_n : Nat := start1.about.vm.classes.size
def zz_about : State := { start1.about with vm := { start1.about.vm with classes := start1.about.vm.classes.push zz_odd }, heap := start1.about.heap.modify 2 (fun c => { c with cls := zz_n }) }

/-! the words of the code: they speak of what stands as it stood -/
def zz_same (c : Jvm.Cond) : Bool := match c with
  | .code y _ _ _ => (match start1.about.methodNamed? y, zz_about.methodNamed? y with
    | some a, some b => Nat.beq a.cls b.cls && (Nat.beq a.idx b.idx && Nat.ble (a.cls + 1) zz_n)
    | _, _ => false)
  | _ => true
theorem zz_method {a : MethodId} (h : a.cls < zz_n) : zz_about.vm.method? a = start1.about.vm.method? a := by
  have h1 : (start1.about.vm.classes.push zz_odd)[a.cls]? = start1.about.vm.classes[a.cls]? := by
    rw [Array.getElem?_push]; exact if_neg (Nat.ne_of_lt h)
  show ((start1.about.vm.classes.push zz_odd)[a.cls]?).bind _ = (start1.about.vm.classes[a.cls]?).bind _
  rw [h1]
theorem zz_word {y : MethodName} {b : ByteArray} {k : Nat} {r : Option FieldType} {v : Array Value} (hs : zz_same (.code y b k r) = true) (h : (Cond.code y b k r).before v start1.about = true) : (Cond.code y b k r).before v zz_about = true := by
  unfold zz_same at hs
  cases h1 : start1.about.methodNamed? y with
  | none => simp [h1] at hs
  | some m =>
    cases h2 : zz_about.methodNamed? y with
    | none => simp [h1, h2] at hs
    | some m' =>
      simp only [h1, h2, Bool.and_eq_true] at hs
      have e1 := Nat.eq_of_beq_eq_true hs.1
      have e2 := Nat.eq_of_beq_eq_true hs.2.1
      have e3 := Nat.le_of_ble_eq_true hs.2.2
      have e : m' = m := by cases m; cases m'; simp only at e1 e2; subst e1 e2; rfl
      subst e
      have h3 := zz_method e3
      simp only [Cond.before, Cond.holds, Cond.value, h1, Option.bind_some] at h
      simp only [Cond.before, Cond.holds, Cond.value, h2, Option.bind_some, h3]
      exact h
theorem zz_same_x : zz_same (Cond.code x code maxLocals ret) = true := by decide +kernel
theorem zz_o1_0 : (tables_1_1.take 40).all (fun c => su_isCode c || c.before start1.args0 zz_about) = true := by decide +kernel
theorem zz_o1_1 : ((tables_1_1.drop 40).take 40).all (fun c => su_isCode c || c.before start1.args0 zz_about) = true := by decide +kernel
theorem zz_o1_2 : (((tables_1_1.drop 40).drop 40).take 40).all (fun c => su_isCode c || c.before start1.args0 zz_about) = true := by decide +kernel
theorem zz_o1_3 : ((((tables_1_1.drop 40).drop 40).drop 40).take 40).all (fun c => su_isCode c || c.before start1.args0 zz_about) = true := by decide +kernel
theorem zz_o1_4 : (((((tables_1_1.drop 40).drop 40).drop 40).drop 40).take 40).all (fun c => su_isCode c || c.before start1.args0 zz_about) = true := by decide +kernel
theorem zz_o1_5 : ((((((tables_1_1.drop 40).drop 40).drop 40).drop 40).drop 40)).all (fun c => su_isCode c || c.before start1.args0 zz_about) = true := by decide +kernel
theorem zz_o1 : tables_1_1.all (fun c => su_isCode c || c.before start1.args0 zz_about) = true := start1.su_all_split _ 40 _ zz_o1_0 (start1.su_all_split _ 40 _ zz_o1_1 (start1.su_all_split _ 40 _ zz_o1_2 (start1.su_all_split _ 40 _ zz_o1_3 (start1.su_all_split _ 40 _ zz_o1_4 (zz_o1_5)))))
theorem zz_s1 : tables_1_1.all zz_same = true := by decide +kernel
theorem zz_o2_0 : (tables_1_2.take 40).all (fun c => su_isCode c || c.before start1.args0 zz_about) = true := by decide +kernel
theorem zz_o2_1 : ((tables_1_2.drop 40).take 40).all (fun c => su_isCode c || c.before start1.args0 zz_about) = true := by decide +kernel
theorem zz_o2_2 : (((tables_1_2.drop 40).drop 40).take 40).all (fun c => su_isCode c || c.before start1.args0 zz_about) = true := by decide +kernel
theorem zz_o2_3 : ((((tables_1_2.drop 40).drop 40).drop 40).take 40).all (fun c => su_isCode c || c.before start1.args0 zz_about) = true := by decide +kernel
theorem zz_o2_4 : (((((tables_1_2.drop 40).drop 40).drop 40).drop 40).take 40).all (fun c => su_isCode c || c.before start1.args0 zz_about) = true := by decide +kernel
theorem zz_o2_5 : ((((((tables_1_2.drop 40).drop 40).drop 40).drop 40).drop 40)).all (fun c => su_isCode c || c.before start1.args0 zz_about) = true := by decide +kernel
theorem zz_o2 : tables_1_2.all (fun c => su_isCode c || c.before start1.args0 zz_about) = true := start1.su_all_split _ 40 _ zz_o2_0 (start1.su_all_split _ 40 _ zz_o2_1 (start1.su_all_split _ 40 _ zz_o2_2 (start1.su_all_split _ 40 _ zz_o2_3 (start1.su_all_split _ 40 _ zz_o2_4 (zz_o2_5)))))
theorem zz_s2 : tables_1_2.all zz_same = true := by decide +kernel
theorem zz_o3_0 : (tables_1_3.take 40).all (fun c => su_isCode c || c.before start1.args0 zz_about) = true := by decide +kernel
theorem zz_o3_1 : ((tables_1_3.drop 40).take 40).all (fun c => su_isCode c || c.before start1.args0 zz_about) = true := by decide +kernel
theorem zz_o3_2 : (((tables_1_3.drop 40).drop 40).take 40).all (fun c => su_isCode c || c.before start1.args0 zz_about) = true := by decide +kernel
theorem zz_o3_3 : ((((tables_1_3.drop 40).drop 40).drop 40).take 40).all (fun c => su_isCode c || c.before start1.args0 zz_about) = true := by decide +kernel
theorem zz_o3_4 : (((((tables_1_3.drop 40).drop 40).drop 40).drop 40).take 40).all (fun c => su_isCode c || c.before start1.args0 zz_about) = true := by decide +kernel
theorem zz_o3_5 : ((((((tables_1_3.drop 40).drop 40).drop 40).drop 40).drop 40)).all (fun c => su_isCode c || c.before start1.args0 zz_about) = true := by decide +kernel
theorem zz_o3 : tables_1_3.all (fun c => su_isCode c || c.before start1.args0 zz_about) = true := start1.su_all_split _ 40 _ zz_o3_0 (start1.su_all_split _ 40 _ zz_o3_1 (start1.su_all_split _ 40 _ zz_o3_2 (start1.su_all_split _ 40 _ zz_o3_3 (start1.su_all_split _ 40 _ zz_o3_4 (zz_o3_5)))))
theorem zz_s3 : tables_1_3.all zz_same = true := by decide +kernel
theorem zz_o4_0 : (tables_1_4.take 40).all (fun c => su_isCode c || c.before start1.args0 zz_about) = true := by decide +kernel
theorem zz_o4_1 : ((tables_1_4.drop 40).take 40).all (fun c => su_isCode c || c.before start1.args0 zz_about) = true := by decide +kernel
theorem zz_o4_2 : (((tables_1_4.drop 40).drop 40).take 40).all (fun c => su_isCode c || c.before start1.args0 zz_about) = true := by decide +kernel
theorem zz_o4_3 : ((((tables_1_4.drop 40).drop 40).drop 40).take 40).all (fun c => su_isCode c || c.before start1.args0 zz_about) = true := by decide +kernel
theorem zz_o4_4 : (((((tables_1_4.drop 40).drop 40).drop 40).drop 40).take 40).all (fun c => su_isCode c || c.before start1.args0 zz_about) = true := by decide +kernel
theorem zz_o4_5 : ((((((tables_1_4.drop 40).drop 40).drop 40).drop 40).drop 40)).all (fun c => su_isCode c || c.before start1.args0 zz_about) = true := by decide +kernel
theorem zz_o4 : tables_1_4.all (fun c => su_isCode c || c.before start1.args0 zz_about) = true := start1.su_all_split _ 40 _ zz_o4_0 (start1.su_all_split _ 40 _ zz_o4_1 (start1.su_all_split _ 40 _ zz_o4_2 (start1.su_all_split _ 40 _ zz_o4_3 (start1.su_all_split _ 40 _ zz_o4_4 (zz_o4_5)))))
theorem zz_s4 : tables_1_4.all zz_same = true := by decide +kernel
theorem zz_o5_0 : (tables_1_5.take 40).all (fun c => su_isCode c || c.before start1.args0 zz_about) = true := by decide +kernel
theorem zz_o5_1 : ((tables_1_5.drop 40)).all (fun c => su_isCode c || c.before start1.args0 zz_about) = true := by decide +kernel
theorem zz_o5 : tables_1_5.all (fun c => su_isCode c || c.before start1.args0 zz_about) = true := start1.su_all_split _ 40 _ zz_o5_0 (zz_o5_1)
theorem zz_s5 : tables_1_5.all zz_same = true := by decide +kernel
theorem zz_others : tables_1.all (fun c => su_isCode c || c.before start1.args0 zz_about) = true := by
  unfold tables_1
  exact (by rw [List.all_append, Bool.and_eq_true]; exact ⟨zz_o1, (by rw [List.all_append, Bool.and_eq_true]; exact ⟨zz_o2, (by rw [List.all_append, Bool.and_eq_true]; exact ⟨zz_o3, (by rw [List.all_append, Bool.and_eq_true]; exact ⟨zz_o4, zz_o5⟩)⟩)⟩)⟩)
theorem zz_sames : tables_1.all zz_same = true := by
  unfold tables_1
  exact (by rw [List.all_append, Bool.and_eq_true]; exact ⟨zz_s1, (by rw [List.all_append, Bool.and_eq_true]; exact ⟨zz_s2, (by rw [List.all_append, Bool.and_eq_true]; exact ⟨zz_s3, (by rw [List.all_append, Bool.and_eq_true]; exact ⟨zz_s4, zz_s5⟩)⟩)⟩)⟩)
theorem zz_words : ∀ c ∈ (Cond.code x code maxLocals ret :: tables_1), c.before start1.args0 zz_about = true := by
  intro c hc
  rcases List.mem_cons.mp hc with h | h
  · rw [h]; exact zz_word zz_same_x start1.word_code
  · have ho := List.all_eq_true.mp zz_others c h
    have hs := List.all_eq_true.mp zz_sames c h
    have hb := start1.words c hc
    cases hq : su_isCode c with
    | false => simpa [hq] using ho
    | true =>
      cases c with
      | code y b k r => exact zz_word hs hb
      | _ => exact absurd hq (by simp [su_isCode])
theorem zz_atStart : AtStart classFile x code maxLocals ret World_1 tables_1 room_1 Calls_1 rest_1 Pre_1 launch0 start1.p0 start1.e0 zz_about ⟨0, 0⟩ start1.args0 Lib.HandBits.below0 :=
  ⟨lists_1, trivial, launch0.admits_env _ _ _, launch0.least_env, fairChoices_fair.cas, fairChoices_fair.clock, rfl, by decide +kernel, by decide +kernel,
    (Spec.applies_iff rfl).mpr ⟨rfl, rfl, rfl, by decide +kernel, by decide +kernel, by decide +kernel, launch0.hasRoom_least _ room_1 (by decide +kernel) (by decide +kernel) (by decide +kernel) (by decide +kernel) (by decide +kernel) (by decide +kernel), atoms_intro zz_words⟩,
    trivial, (show rest_1_c.before start1.args0 zz_about = true by decide +kernel), (show (Cond.and given_1 narrow_1).before start1.args0 zz_about = true by decide +kernel)⟩

/-! the run: some 170 steps, at whose end the law's own frame is gone and the array is being thrown -/
def zz_bot : Frame → Bool
  | .native ⟨⟨0, 0⟩, ⟨[]⟩, 0, ⟨[]⟩, false, none, none, 0⟩ => true
  | _ => false
theorem zz_bot_eq {f : Frame} (h : zz_bot f = true) : [f] = Lib.HandBits.below0 := by
  revert h; unfold zz_bot; split <;> intro h <;> first | rfl | cases h
def zz_tail : List Frame → Bool
  | [] => false
  | [b] => zz_bot b
  | _ :: b :: r => zz_tail (b :: r)
theorem zz_tail_eq : ∀ (l : List Frame), zz_tail l = true → ∃ pre, l = pre ++ Lib.HandBits.below0
  | [], h => by simp [zz_tail] at h
  | [b], h => ⟨[], zz_bot_eq (f := b) (by simpa [zz_tail] using h)⟩
  | a :: b :: r, h => by
    obtain ⟨pre, hp⟩ := zz_tail_eq (b :: r) (by simpa [zz_tail] using h)
    exact ⟨a :: pre, by rw [hp]; rfl⟩
def zz_one : Frame → Bool
  | .throwing _ => false
  | _ => true
def zz_in : List Frame → Bool
  | a :: b :: c :: r => zz_tail (a :: b :: c :: r)
  | [a, b] => zz_one a && zz_bot b
  | _ => false
theorem zz_in_eq {s : State} (h : zz_in s.frames = true) : Within s Lib.HandBits.below0 := by
  unfold Within
  generalize s.frames = l at h
  match l, h with
  | [], h => simp [zz_in] at h
  | [a], h => simp [zz_in] at h
  | [a, b], h =>
    simp only [zz_in, Bool.and_eq_true] at h
    refine ⟨[a], by rw [← zz_bot_eq h.2]; rfl, by simp, fun q hq => ?_⟩
    injection hq with h1 h2
    subst h1
    exact absurd h.1 (by simp [zz_one])
  | a :: b :: c :: r, h =>
    obtain ⟨pre, hp⟩ := zz_tail_eq (a :: b :: c :: r) (by simpa only [zz_in] using h)
    refine ⟨pre, hp, fun hn => ?_, fun q hq => ?_⟩
    · subst hn; simp [Lib.HandBits.below0] at hp
    · subst hq; simp [Lib.HandBits.below0] at hp
def zz_can (s : State) : Bool := match s.status, s.curStatus?, s.alone with
  | .running, some .runnable, true => true
  | _, _, _ => false
def zz_end (s : State) : Bool := match s.status, s.frames with
  | .running, [.throwing _, b] => zz_bot b
  | _, _ => false
def zz_run (tb : Tables) (e : Env) : Nat → State → Bool
  | 0, s => zz_end s
  | k + 1, s => match zz_in s.frames && zz_can s with
    | true => zz_run tb e k (stepThread tb e s).1
    | false => zz_end s
theorem zz_end_eq {s : State} (h : zz_end s = true) : s.status = .running ∧ ∃ a, s.frames = .throwing a :: Lib.HandBits.below0 := by
  unfold zz_end at h
  split at h
  · rename_i a b hs hf
    exact ⟨hs, a, by rw [hf, ← zz_bot_eq h]⟩
  · cases h
theorem zz_run_eq (tb : Tables) (e : Env) : ∀ (k : Nat) (s : State), zz_run tb e k s = true →
    ∃ n, (∀ j, j < n → Within (stepsAlone tb e j s) Lib.HandBits.below0) ∧ (stepsAlone tb e n s).status = .running ∧ ∃ a, (stepsAlone tb e n s).frames = .throwing a :: Lib.HandBits.below0 := by
  intro k
  induction k with
  | zero => intro s h; exact ⟨0, fun j hj => absurd hj (Nat.not_lt_zero j), zz_end_eq h⟩
  | succ k ih =>
    intro s h
    unfold zz_run at h
    split at h
    · rename_i hg
      rw [Bool.and_eq_true] at hg
      obtain ⟨n, hn, ht⟩ := ih _ h
      have hstep : ∀ j, stepsAlone tb e (j + 1) s = stepsAlone tb e j (stepThread tb e s).1 := fun j => by
        have hc := hg.2
        unfold zz_can at hc
        split at hc
        · rename_i h1 h2 h3
          simp only [stepsAlone, h1, h2, h3]
        · cases hc
      refine ⟨n + 1, fun j hj => ?_, by rw [hstep]; exact ht⟩
      cases j with
      | zero => exact zz_in_eq hg.1
      | succ j => rw [hstep]; exact hn j (Nat.lt_of_succ_lt_succ hj)
    · exact ⟨0, fun j hj => absurd hj (Nat.not_lt_zero j), zz_end_eq h⟩
theorem zz_ran : zz_run start1.p0.tables start1.e0 400 zz_about = true := by decide +kernel

/-! so the claim falls, and has no proof -/
theorem zz_falls : RefutedClaimed_1_1 := by
  obtain ⟨n, hw, hs, a, hf⟩ := zz_run_eq _ _ _ _ zz_ran
  refine ⟨launch0, start1.p0, start1.e0, zz_about, ⟨0, 0⟩, start1.args0, Lib.HandBits.below0, rfl, zz_atStart, n, .threw a, hw, hs, hf, fun h => ?_⟩
  obtain ⟨-, ⟨v, hv⟩, -⟩ := h
  cases hv
theorem zz_false : ¬ (Claimed_1_1 ∧ Claimed_1_2) := by
  rintro ⟨hA, -⟩
  obtain ⟨l, p, e, s, m, args, below, hfl, ⟨hL, hW, had, -, hcas, hclk, hfr, hfit, hheap, happ, hcalls, hrest, hpre⟩, n, o, hin, -, hend, hnot⟩ := zz_falls
  obtain ⟨k, q, hin', -, hend', hpost⟩ := hA l hfl hL hW p e had hcas hclk s m args below hfr hfit hheap happ ⟨hcalls, hrest, hpre⟩
  have hnk : n = k := by
    rcases Nat.lt_trichotomy n k with h | h | h
    · exact absurd (hin' n h) hend.not_within
    · exact h
    · exact absurd (hin k h) hend'.not_within
  subst hnk
  exact hnot (hend.outcome_unique hend' ▸ hpost)
