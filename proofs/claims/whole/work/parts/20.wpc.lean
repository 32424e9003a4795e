/-! RUNS AS GOALS: forms for the rows of the instructions -/
/-- an object with a field; an object -/
def okG (h : AH) (a ci k : Nat) : Prop := ∃ fs, h[a]? = some (.inr ci, fs) ∧ k < fs.length
def okV (h : AH) (a ci : Nat) : Prop := ∃ fs, h[a]? = some (.inr ci, fs)
def swP (P : Nat → Prop) (x : Int32) (d : Nat) : List (Int32 × Nat) → Prop
  | [] => P d
  | (k, t) :: r => if x = k then P t else swP P x d r
theorem sw_ok (P : Nat → Prop) (x : Int32) (d : Nat) : ∀ ps : List (Int32 × Nat), P (Op.lookupswitch.offset (ps.map fun q => (q.1.toInt, (q.2 : Int))) (d : Int) x.toInt).toNat ↔ swP P x d ps := by
  intro ps
  induction ps with
  | nil => exact Iff.rfl
  | cons q r ih =>
    obtain ⟨k, t⟩ := q
    rw [List.map_cons, Op.lookupswitch.offset_cons]
    unfold swP
    by_cases h : x = k
    · subst h
      rw [if_pos rfl, if_pos rfl]
      exact Iff.rfl
    · rw [if_neg h, if_neg (fun q => h (Int32.toInt_inj.mp q.symm))]
      exact ih
section WC
variable {d mid pc len : Nat} {i : Instr} {ls : AL} {st : List Value} {h : AH} {Q : Option Value → AH → Prop}
theorem wk_sw {dd : Int} {ps : Array (Int × Int)} {x : Int32} {dn : Nat} (l : List (Int32 × Nat)) (hc : rc mid pc = some (.lookupswitch dd ps, len)) (h1 : ps.toList = l.map fun q => (q.1.toInt, (q.2 : Int))) (h2 : dd = (dn : Int)) : wp d mid pc ls (.int x :: st) h Q ↔ swP (fun t => wp d mid t ls st h Q) x dn l := by
  refine (wp_step hc rfl rfl (pc' := (Op.lookupswitch.offset ps.toList dd x.toInt).toNat) (ls' := ls) (st' := st) (h' := h) rfl).trans ?_
  rw [h1, h2]
  exact sw_ok (fun t => wp d mid t ls st h Q) x dn l
theorem wk_getf {x a ci k : Nat} (hc : rc mid pc = some (.getfield x, 3)) (hx : am_fc x = ci) (hk : am_fk x = k) (ho : okG h a ci k) : wp d mid pc ls (.ref a :: st) h Q ↔ wp d mid (pc + 3) ls (fld h a k :: st) h Q := by
  subst hx
  subst hk
  exact wp_getf hc ho
theorem wk_putf {x a ci k : Nat} {v : Value} {ty : FieldType} (hc : rc mid pc = some (.putfield x, 3)) (hx : am_fc x = ci) (hk : am_fk x = k) (hty : cF ci k = ty) (hn : narrow ty v = v) (hf : fits ty v = true) (ho : okG h a ci k) (hs : sN ≤ a) : wp d mid pc ls (v :: .ref a :: st) h Q ↔ wp d mid (pc + 3) ls st (hput h a k v) Q := by
  subst hx
  subst hk
  subst hty
  exact wp_putf hc ho hs hn hf
theorem wk_eq0 {t : Nat} {x : Int32} (hc : rc mid pc = some (.ifCond .eq t, 3)) : wp d mid pc ls (.int x :: st) h Q ↔ if x = 0 then wp d mid t ls st h Q else wp d mid (pc + 3) ls st h Q := wp_if _ hc rfl
theorem wk_ne0 {t : Nat} {x : Int32} (hc : rc mid pc = some (.ifCond .ne t, 3)) : wp d mid pc ls (.int x :: st) h Q ↔ if x = 0 then wp d mid (pc + 3) ls st h Q else wp d mid t ls st h Q := by
  rw [wp_if (P := ¬ x = 0) inferInstance hc rfl]
  by_cases h : x = 0 <;> simp [h]
theorem wk_lt0 {t : Nat} {x : Int32} (hc : rc mid pc = some (.ifCond .lt t, 3)) : wp d mid pc ls (.int x :: st) h Q ↔ if x < 0 then wp d mid t ls st h Q else wp d mid (pc + 3) ls st h Q := wp_if _ hc rfl
theorem wk_ge0 {t : Nat} {x : Int32} (hc : rc mid pc = some (.ifCond .ge t, 3)) : wp d mid pc ls (.int x :: st) h Q ↔ if x < 0 then wp d mid (pc + 3) ls st h Q else wp d mid t ls st h Q := by
  rw [wp_if (P := 0 ≤ x) inferInstance hc rfl]
  by_cases h : x < 0
  · rw [if_pos h, if_neg (k2_nle h)]
  · rw [if_neg h, if_pos (k2_le h)]
    exact Iff.rfl
theorem wk_gt0 {t : Nat} {x : Int32} (hc : rc mid pc = some (.ifCond .gt t, 3)) : wp d mid pc ls (.int x :: st) h Q ↔ if 0 < x then wp d mid t ls st h Q else wp d mid (pc + 3) ls st h Q := wp_if _ hc rfl
theorem wk_le0 {t : Nat} {x : Int32} (hc : rc mid pc = some (.ifCond .le t, 3)) : wp d mid pc ls (.int x :: st) h Q ↔ if 0 < x then wp d mid (pc + 3) ls st h Q else wp d mid t ls st h Q := by
  rw [wp_if (P := x ≤ 0) inferInstance hc rfl]
  by_cases h : 0 < x
  · rw [if_pos h, if_neg (k2_nle h)]
  · rw [if_neg h, if_pos (k2_le h)]
    exact Iff.rfl
theorem wk_eq {t : Nat} {x y : Int32} (hc : rc mid pc = some (.if_icmp .eq t, 3)) : wp d mid pc ls (.int y :: .int x :: st) h Q ↔ if x = y then wp d mid t ls st h Q else wp d mid (pc + 3) ls st h Q := wp_ic _ hc rfl
theorem wk_ne {t : Nat} {x y : Int32} (hc : rc mid pc = some (.if_icmp .ne t, 3)) : wp d mid pc ls (.int y :: .int x :: st) h Q ↔ if x = y then wp d mid (pc + 3) ls st h Q else wp d mid t ls st h Q := by
  rw [wp_ic (P := ¬ x = y) inferInstance hc rfl]
  by_cases h : x = y <;> simp [h]
theorem wk_lt {t : Nat} {x y : Int32} (hc : rc mid pc = some (.if_icmp .lt t, 3)) : wp d mid pc ls (.int y :: .int x :: st) h Q ↔ if x < y then wp d mid t ls st h Q else wp d mid (pc + 3) ls st h Q := wp_ic _ hc rfl
theorem wk_ge {t : Nat} {x y : Int32} (hc : rc mid pc = some (.if_icmp .ge t, 3)) : wp d mid pc ls (.int y :: .int x :: st) h Q ↔ if x < y then wp d mid (pc + 3) ls st h Q else wp d mid t ls st h Q := by
  rw [wp_ic (P := y ≤ x) inferInstance hc rfl]
  by_cases h : x < y
  · rw [if_pos h, if_neg (k2_nle h)]
  · rw [if_neg h, if_pos (k2_le h)]
    exact Iff.rfl
theorem wk_gt {t : Nat} {x y : Int32} (hc : rc mid pc = some (.if_icmp .gt t, 3)) : wp d mid pc ls (.int y :: .int x :: st) h Q ↔ if y < x then wp d mid t ls st h Q else wp d mid (pc + 3) ls st h Q := wp_ic _ hc rfl
theorem wk_le {t : Nat} {x y : Int32} (hc : rc mid pc = some (.if_icmp .le t, 3)) : wp d mid pc ls (.int y :: .int x :: st) h Q ↔ if y < x then wp d mid (pc + 3) ls st h Q else wp d mid t ls st h Q := by
  rw [wp_ic (P := x ≤ y) inferInstance hc rfl]
  by_cases h : y < x
  · rw [if_pos h, if_neg (k2_nle h)]
  · rw [if_neg h, if_pos (k2_le h)]
    exact Iff.rfl
theorem wk_vret {Q : Option Value → AH → Prop} (hc : rc mid pc = some (.return_, len)) (hr : mR mid = none) : wp d mid pc ls [] h Q ↔ Q none h := wp_ret hc rfl (by rw [hr]; rfl)
theorem wk_iret {ty : FieldType} {v : Int32} (hc : rc mid pc = some (.ireturn, len)) (hr : mR mid = some ty) (hn : narrow ty (.int v) = .int v) (hf : fits ty (.int v) = true) : wp d mid pc ls [.int v] h Q ↔ Q (some (.int v)) h := wp_ret hc rfl (by
  rw [hr]
  show (true && (decide (narrow ty (.int v) = .int v) && fits ty (.int v))) = true
  rw [hf, decide_eq_true hn]
  rfl)
theorem wk_lret {v : Int64} (hc : rc mid pc = some (.lreturn, len)) (hr : mR mid = some .long) : wp d mid pc ls [.long v] h Q ↔ Q (some (.long v)) h := wp_ret hc rfl (by
  rw [hr]
  show (true && (decide (narrow .long (.long v) = .long v) && fits .long (.long v))) = true
  rw [decide_eq_true (show narrow .long (.long v) = .long v from rfl)]
  rfl)
theorem wk_aret {ty : FieldType} {v : Nat} (hc : rc mid pc = some (.areturn, len)) (hr : mR mid = some ty) (hf : fits ty (.ref v) = true) : wp d mid pc ls [.ref v] h Q ↔ Q (some (.ref v)) h := wp_ret hc rfl (by
  rw [hr]
  show (true && (decide (narrow ty (.ref v) = .ref v) && fits ty (.ref v))) = true
  rw [hf, decide_eq_true (show narrow ty (.ref v) = .ref v by cases ty <;> rfl)]
  rfl)
theorem wk_nret {ty : FieldType} (hc : rc mid pc = some (.areturn, len)) (hr : mR mid = some ty) (hf : fits ty .null = true) : wp d mid pc ls [.null] h Q ↔ Q (some .null) h := wp_ret hc rfl (by
  rw [hr]
  show (true && (decide (narrow ty .null = .null) && fits ty .null)) = true
  rw [hf, decide_eq_true (show narrow ty .null = .null by cases ty <;> rfl)]
  rfl)
theorem wk_callS {cm n : Nat} {vs : List Value} {es : AL} (hc : rc mid pc = some (.invokestatic cm, 3)) (hst : st = vs.reverse) (hn : vs.length = mA cm) {rest : List Value} (he : am_entry (mL cm) vs = es) (hl : (am_en vs).length ≤ mL cm) (hr : am_cat rest ≤ 8) : wp (d + 1) mid pc ls (st ++ rest) h Q ↔ wp d cm 0 es [] h (fun r h1 => wp (d + 1) mid (pc + 3) ls (r.toList ++ rest) h1 Q) := by
  subst he
  subst hst
  refine wp_call hc rfl (cm := cm) (vs := vs) (rest := rest) ?_ ?_
  · show some (cm, ((vs.reverse ++ rest).take (mA cm)).reverse, (vs.reverse ++ rest).drop (mA cm)) = _
    rw [← hn, ← List.length_reverse (as := vs), List.take_left, List.drop_left, List.reverse_reverse]
  · exact decide_eq_true ⟨hn, hl, hr⟩
theorem wk_callI {cm b : Nat} {vs : List Value} {es : AL} (hc : rc mid pc = some (.invokespecial cm, 3)) (hst : st = (.ref b :: vs).reverse) (hn : vs.length = mA cm) {rest : List Value} (he : am_entry (mL cm) (.ref b :: vs) = es) (hl : (am_en (.ref b :: vs)).length ≤ mL cm) (hr : am_cat rest ≤ 8) : wp (d + 1) mid pc ls (st ++ rest) h Q ↔ wp d cm 0 es [] h (fun r h1 => wp (d + 1) mid (pc + 3) ls (r.toList ++ rest) h1 Q) := by
  subst he
  subst hst
  have hn' : (Value.ref b :: vs).length = mA cm + 1 := by rw [List.length_cons, hn]
  refine wp_call hc rfl (cm := cm) (vs := .ref b :: vs) (rest := rest) ?_ ?_
  · show some (cm, (((Value.ref b :: vs).reverse ++ rest).take (mA cm + 1)).reverse, ((Value.ref b :: vs).reverse ++ rest).drop (mA cm + 1)) = _
    rw [← hn', ← List.length_reverse (as := Value.ref b :: vs), List.take_left, List.drop_left, List.reverse_reverse]
  · exact decide_eq_true ⟨hn', hl, hr⟩
theorem wk_callV {cm b ci : Nat} {vs : List Value} {es : AL} (hc : rc mid pc = some (.invokevirtual cm, 3)) (hci : mC cm = ci) (hst : st = (.ref b :: vs).reverse) (hn : vs.length = mA cm) {rest : List Value} (he : am_entry (mL cm) (.ref b :: vs) = es) (hl : (am_en (.ref b :: vs)).length ≤ mL cm) (ho : okV h b ci) (hr : am_cat rest ≤ 8) : wp (d + 1) mid pc ls (st ++ rest) h Q ↔ wp d cm 0 es [] h (fun r h1 => wp (d + 1) mid (pc + 3) ls (r.toList ++ rest) h1 Q) := by
  subst he
  subst hst
  subst hci
  have hn' : (Value.ref b :: vs).length = mA cm + 1 := by rw [List.length_cons, hn]
  refine wp_call hc rfl (cm := cm) (vs := .ref b :: vs) (rest := rest) ?_ ?_
  · show some (cm, (((Value.ref b :: vs).reverse ++ rest).take (mA cm + 1)).reverse, ((Value.ref b :: vs).reverse ++ rest).drop (mA cm + 1)) = _
    rw [← hn', ← List.length_reverse (as := Value.ref b :: vs), List.take_left, List.drop_left, List.reverse_reverse]
  · obtain ⟨fs, ho⟩ := ho
    show (match h[b]? with | some (.inr ci, _) => decide (ci = mC cm ∧ (Value.ref b :: vs).length = mA cm + 1 ∧ (am_en (.ref b :: vs)).length ≤ mL cm ∧ am_cat rest ≤ 8) | _ => false) = true
    rw [ho]
    exact decide_eq_true ⟨rfl, hn', hl, hr⟩
end WC
section WD
variable {d mid pc len : Nat} {i : Instr} {ls : AL} {st : List Value} {h : AH} {Q : Option Value → AH → Prop}
theorem wp_max {x y : Int32} (hc : rc mid pc = some (.dadd, 3)) (hs : am_cat st ≤ 8) : wp (d + 1) mid pc ls (.int y :: .int x :: st) h Q ↔ wp (d + 1) mid (pc + 3) ls (.int (if x < y then y else x) :: st) h Q := by
  refine wp_step hc rfl rfl ?_
  unfold am_step
  dsimp only
  rw [if_pos ⟨by omega, hs⟩]
theorem wp_min {x y : Int32} (hc : rc mid pc = some (.dsub, 3)) (hs : am_cat st ≤ 8) : wp (d + 1) mid pc ls (.int y :: .int x :: st) h Q ↔ wp (d + 1) mid (pc + 3) ls (.int (if y < x then y else x) :: st) h Q := by
  refine wp_step hc rfl rfl ?_
  unfold am_step
  dsimp only
  rw [if_pos ⟨by omega, hs⟩]
theorem wp_mabs {x : Int64} (hc : rc mid pc = some (.dneg, 3)) (hs : am_cat st ≤ 8) : wp (d + 1) mid pc ls (.long x :: st) h Q ↔ wp (d + 1) mid (pc + 3) ls (.long (if 0 < x then x else -x) :: st) h Q := by
  refine wp_step hc rfl rfl ?_
  unfold am_step
  dsimp only
  rw [if_pos ⟨by omega, hs⟩]
def am_isZ (ty : FieldType) : Bool := match ty with
  | .boolean => true
  | _ => false
theorem wp_zast {a : Nat} {j x : Int32} (hc : rc mid pc = some (.bastore, 1)) (ho : okA am_isZ h a j) (hs : sN ≤ a) : wp d mid pc ls (.int x :: .int j :: .ref a :: st) h Q ↔ wp d mid (pc + 1) ls st (hast h a j (.int (x &&& 1))) Q := by
  refine wp_step hc rfl rfl ?_
  obtain ⟨ty, vs, h1, h2, h3, h4⟩ := ho
  have hty : ty = .boolean := by cases ty <;> first | rfl | cases h2
  subst hty
  show am_as pc 1 ls st (am_ast am_isB h a j (fun ty => narrow ty (.int x))) = _
  have e0 : am_ast am_isB h a j (fun ty => narrow ty (.int x)) = some (hast h a j (.int (x &&& 1))) := by
    simp only [am_ast, hast, h1]
    rw [if_pos ⟨rfl, h3, h4, hs⟩]
    rfl
  rw [e0]
  rfl
end WD
