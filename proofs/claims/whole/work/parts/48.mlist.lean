/-! THE REFERENCE'S WORK LIST -/
def At (A0 : Nat → Nat → Int32) (p b : Nat) (c : Int32) (q : Nat) : Prop := (∀ i, i < b → A0 1 (p + i) = 91) ∧ A0 1 (p + b) = c ∧ (c = 79 → A0 1 (p + b + 1) = nI (48 + q)) ∧ p + b + 1 < 240
def RowAt (A0 : Nat → Nat → Int32) : Nat → List Ty → Prop
  | _, [] => True
  | p, τ :: l => At A0 p τ.1 τ.2.1 τ.2.2 ∧ RowAt A0 (p + spl τ) l
section MLI
variable {P S h : AH} {n0 : Nat → Int32} {A0 : Nat → Nat → Int32} {k u ar d : Nat} {t w D : List Int32} {nl x : Int32} {o1 : Option Value} {Q : Option Value → AH → Prop}
theorem wl_nil (hP : P.length = 135) (M : MS P S n0 A0 k t u ar [] nl h) (K : Q none h) : wp d 109 0 [some (.ref 135), o1] [] h Q := by
  obtain ⟨n, A, rfl, m1, m2, m3, m4, m5, m6⟩ := M
  have e1 : ¬ (0 : Int32) < nI ([] : List Int32).length := by decide
  simp only [k_109_0, k_109_0N, k_109_4, k_109_82, k_109_1, ogw hP, fw_23 hP, m5, e1, if_false, am_cat, am_kill, Value.category, List.map_cons, List.map_nil, List.sum_cons, List.sum_nil, Option.toList_some, Option.toList_none, List.cons_append, List.nil_append, List.length_cons, List.length_nil, List.getD_cons_succ, List.getD_cons_zero, List.set_cons_succ, List.set_cons_zero, Nat.reduceAdd, Nat.reduceLT, Nat.reduceLeDiff, Nat.zero_le, Nat.zero_add, Nat.add_zero]
  exact K
theorem wl_pop (hP : P.length = 135) (M : MS P S n0 A0 k t u ar (w ++ [x]) nl h) (hw : w.length < 400) (K : ∀ h', MS P S n0 A0 k t u ar w nl h' → wp d 109 27 [some (.ref 135), some (.int x)] [] h' Q) : wp d 109 0 [some (.ref 135), o1] [] h Q := by
  obtain ⟨n, A, rfl, m1, m2, m3, m4, m5, m6, m7, m8, m9⟩ := M
  have hs : sN ≤ 135 := by decide
  have e0 : (w ++ [x]).length = w.length + 1 := by rw [List.length_append]; rfl
  rw [e0] at m5
  have e1 : (0 : Int32) < nI (w.length + 1) := nI_lt (a := 0) (by omega) (by omega)
  have e2 : upd n 23 (nI w.length) 23 = nI w.length := pk_us
  have e3 : A 10 w.length = x := m8 w.length x (by simp)
  simp only [k_109_0, k_109_0N, k_109_4, k_109_7, k_109_7N, k_109_8, k_109_8i, k_109_12, k_109_13, k_109_17, k_109_17N, k_109_21, k_109_21N, k_109_1, k_109_9, k_109_14, k_109_18, k_109_22, ogw hP, fw_22 hP, fw_23 hP, hw_23 hP, hs, m5, e1, e2, if_true, nI_pred, am_cat, am_kill, Value.category, List.map_cons, List.map_nil, List.sum_cons, List.sum_nil, Option.toList_some, Option.toList_none, List.cons_append, List.nil_append, List.length_cons, List.length_nil, List.getD_cons_succ, List.getD_cons_zero, List.set_cons_succ, List.set_cons_zero, Nat.reduceAdd, Nat.reduceLT, Nat.reduceLeDiff, Nat.zero_le, Nat.zero_add, Nat.add_zero]
  rw [k_109_25 (ow_10 hP hw), aw_10 hP hw, e3]
  simp only [k_109_26, am_cat, am_kill, Value.category, List.map_cons, List.map_nil, List.sum_cons, List.sum_nil, Option.toList_some, Option.toList_none, List.cons_append, List.nil_append, List.length_cons, List.length_nil, List.getD_cons_succ, List.getD_cons_zero, List.set_cons_succ, List.set_cons_zero, Nat.reduceAdd, Nat.reduceLT, Nat.reduceLeDiff, Nat.zero_le, Nat.zero_add, Nat.add_zero]
  refine K _ ⟨_, A, rfl, fun i i1 i2 i3 i4 i5 => by rw [pk_un i4]; exact m1 i i1 i2 i3 i4 i5, by rw [pk_un (by decide)]; exact m2, by rw [pk_un (by decide)]; exact m3, by rw [pk_un (by decide)]; exact m4, pk_us, by rw [pk_un (by decide)]; exact m6, m7, fun j y hj => m8 j y ?_, m9⟩
  rw [List.getElem?_append_left (List.getElem?_eq_some_iff.mp hj).1]
  exact hj
theorem wl_end (hP : P.length = 135) (M : MS P S n0 A0 k t u (ar + 1) (w ++ [1000]) nl h) (hw : w.length < 400) (K : ∀ h' o, MS P S n0 A0 k t u ar w nl h' → wp d 109 0 [some (.ref 135), o] [] h' Q) : wp d 109 0 [some (.ref 135), o1] [] h Q := by
  refine wl_pop hP M hw (fun h1 M1 => ?_)
  obtain ⟨n, A, rfl, m1, m2, m3, m4, m5, m6⟩ := M1
  have hs : sN ≤ 135 := by decide
  have e1 : ((1000 : Int32) < 0) ↔ False := by decide
  simp only [k_109_27, k_109_28, k_109_40, k_109_41, k_109_44, k_109_47, k_109_47N, k_109_48, k_109_48i, k_109_52, k_109_53, k_109_57, k_109_79, k_109_49, k_109_54, ogw hP, fw_21 hP, hw_21 hP, hs, m4, e1, if_true, if_false, nI_pred, am_cat, am_kill, Value.category, List.map_cons, List.map_nil, List.sum_cons, List.sum_nil, Option.toList_some, Option.toList_none, List.cons_append, List.nil_append, List.length_cons, List.length_nil, List.getD_cons_succ, List.getD_cons_zero, List.set_cons_succ, List.set_cons_zero, Nat.reduceAdd, Nat.reduceLT, Nat.reduceLeDiff, Nat.zero_le, Nat.zero_add, Nat.add_zero]
  exact K _ _ ⟨_, A, rfl, fun i i1 i2 i3 i4 i5 => by rw [pk_un i3]; exact m1 i i1 i2 i3 i4 i5, by rw [pk_un (by decide)]; exact m2, by rw [pk_un (by decide)]; exact m3, pk_us, by rw [pk_un (by decide)]; exact m5, by rw [pk_un (by decide)]; exact m6.1, m6.2⟩
theorem wl_val (hP : P.length = 135) {p : Nat} {ins : Bool} (hp : p < 240) (M : MS P S n0 A0 k t u ar (w ++ [nI (2 * p + if ins = true then 1 else 0)]) nl h) (hw : w.length < 400) (K : ∀ h', MS P S n0 A0 k t u ar w nl h' → ∀ Qv : Option Value → AH → Prop, (∀ h1, (∀ o1, wp (d + 1) 109 0 [some (.ref 135), o1] [] h1 Q) → Qv none h1) → wp d 110 0 [some (.ref 135), some (.int (nI p)), some (.int (if ins = true then 1 else 0)), none] [] h' Qv) : wp (d + 1) 109 0 [some (.ref 135), o1] [] h Q := by
  refine wl_pop hP M hw (fun h1 M1 => ?_)
  have h2 : ¬ (2 : Int32) = 0 := by decide
  cases ins with
  | false =>
    have e0 : 2 * p + (if false = true then 1 else 0) = 2 * p := rfl
    rw [e0] at M
    have e1 : ¬ nI (2 * p) < 0 := nI_pos (by omega)
    have e2 : ¬ nI (2 * p) = 1000 := fun q => by
      have := (nI_eq (b := 1000) (by omega) (by omega)).mp q
      omega
    have e3 : nI (2 * p) / 2 = nI p := by rw [show (2 : Int32) = nI 2 from rfl, pk_div (by omega) (by decide) (by decide)]; congr 1; omega
    have e4 : nI (2 * p) - nI p * 2 = 0 := by rw [show (2 : Int32) = nI 2 from rfl, nI_mul, nI_sub2 (by omega), show 2 * p - p * 2 = 0 by omega]; rfl
    have e5 : ((0 : Int32) = 1) ↔ False := by decide
    simp only [e0, k_109_27, k_109_28, k_109_40, k_109_41, k_109_44, k_109_60, k_109_60N, k_109_61, k_109_62, k_109_63 h2, k_109_64, k_109_65, k_109_66 h2, k_109_67, k_109_68, k_109_75, k_109_76, e1, e2, e3, e4, e5, if_false, M1.ov hP, am_cat, am_kill, Value.category, List.map_cons, List.map_nil, List.sum_cons, List.sum_nil, Option.toList_some, Option.toList_none, List.cons_append, List.nil_append, List.length_cons, List.length_nil, List.getD_cons_succ, List.getD_cons_zero, List.set_cons_succ, List.set_cons_zero, Nat.reduceAdd, Nat.reduceLT, Nat.reduceLeDiff, Nat.zero_le, Nat.zero_add, Nat.add_zero]
    refine K h1 M1 _ (fun h3 G => ?_)
    simp only [k_109_79, am_cat, am_kill, Value.category, List.map_cons, List.map_nil, List.sum_cons, List.sum_nil, Option.toList_some, Option.toList_none, List.cons_append, List.nil_append, List.length_cons, List.length_nil, List.getD_cons_succ, List.getD_cons_zero, List.set_cons_succ, List.set_cons_zero, Nat.reduceAdd, Nat.reduceLT, Nat.reduceLeDiff, Nat.zero_le, Nat.zero_add, Nat.add_zero]
    exact G _
  | true =>
    have e0 : 2 * p + (if true = true then 1 else 0) = 2 * p + 1 := rfl
    rw [e0] at M
    have e1 : ¬ nI (2 * p + 1) < 0 := nI_pos (by omega)
    have e2 : ¬ nI (2 * p + 1) = 1000 := fun q => by
      have := (nI_eq (b := 1000) (by omega) (by omega)).mp q
      omega
    have e3 : nI (2 * p + 1) / 2 = nI p := by rw [show (2 : Int32) = nI 2 from rfl, pk_div (by omega) (by decide) (by decide)]; congr 1; omega
    have e4 : nI (2 * p + 1) - nI p * 2 = 1 := by rw [show (2 : Int32) = nI 2 from rfl, nI_mul, nI_sub2 (by omega), show 2 * p + 1 - p * 2 = 1 by omega]; rfl
    simp only [e0, k_109_27, k_109_28, k_109_40, k_109_41, k_109_44, k_109_60, k_109_60N, k_109_61, k_109_62, k_109_63 h2, k_109_64, k_109_65, k_109_66 h2, k_109_67, k_109_68, k_109_71, k_109_72, k_109_76, e1, e2, e3, e4, if_true, if_false, M1.ov hP, am_cat, am_kill, Value.category, List.map_cons, List.map_nil, List.sum_cons, List.sum_nil, Option.toList_some, Option.toList_none, List.cons_append, List.nil_append, List.length_cons, List.length_nil, List.getD_cons_succ, List.getD_cons_zero, List.set_cons_succ, List.set_cons_zero, Nat.reduceAdd, Nat.reduceLT, Nat.reduceLeDiff, Nat.zero_le, Nat.zero_add, Nat.add_zero]
    refine K h1 M1 _ (fun h3 G => ?_)
    simp only [k_109_79, am_cat, am_kill, Value.category, List.map_cons, List.map_nil, List.sum_cons, List.sum_nil, Option.toList_some, Option.toList_none, List.cons_append, List.nil_append, List.length_cons, List.length_nil, List.getD_cons_succ, List.getD_cons_zero, List.set_cons_succ, List.set_cons_zero, Nat.reduceAdd, Nat.reduceLT, Nat.reduceLeDiff, Nat.zero_le, Nat.zero_add, Nat.add_zero]
    exact G _
theorem wl_chr (hP : P.length = 135) (hk : k < 4) {c : Int32} (hx : x < 0) (hn : -x = c) (hc : chr c) (M : MS P S n0 A0 k t u ar (w ++ [x]) nl h) (hw : w.length < 400) (hb : t.length < 2 ^ 30) (K : ∀ h' o, MS P S n0 A0 k (t ++ [c]) u ar w nl h' → wp (d + 1) 109 0 [some (.ref 135), o] [] h' Q) : wp (d + 1) 109 0 [some (.ref 135), o1] [] h Q := by
  refine wl_pop hP M hw (fun h1 M1 => ?_)
  simp only [k_109_27, k_109_28, k_109_31, k_109_31N, k_109_32, k_109_33, k_109_34, hx, hn, if_true, M1.ov hP, am_cat, am_kill, Value.category, List.map_cons, List.map_nil, List.sum_cons, List.sum_nil, Option.toList_some, Option.toList_none, List.cons_append, List.nil_append, List.length_cons, List.length_nil, List.getD_cons_succ, List.getD_cons_zero, List.set_cons_succ, List.set_cons_zero, Nat.reduceAdd, Nat.reduceLT, Nat.reduceLeDiff, Nat.zero_le, Nat.zero_add, Nat.add_zero]
  refine mi_put hP hk hc M1 hb (fun h2 M2 => ?_)
  simp only [k_109_37, k_109_79, am_cat, am_kill, Value.category, List.map_cons, List.map_nil, List.sum_cons, List.sum_nil, Option.toList_some, Option.toList_none, List.cons_append, List.nil_append, List.length_cons, List.length_nil, List.getD_cons_succ, List.getD_cons_zero, List.set_cons_succ, List.set_cons_zero, Nat.reduceAdd, Nat.reduceLT, Nat.reduceLeDiff, Nat.zero_le, Nat.zero_add, Nat.add_zero]
  exact K h2 _ M2
/-! the name of an array -/
theorem mi_an_loop (hP : P.length = 135) (hk : k < 4) {v : Int32} {o2 : Option Value} : ∀ (j i q : Nat) (h : AH) (t : List Int32), i + j = q → q < 100 → MS P S n0 A0 k t u ar w nl h → t.length + 2 * j < 2 ^ 29 → (∀ h', MS P S n0 A0 k (t ++ brs j) u ar w nl h' → Q none h') → wp (d + 1) 114 255 [some (.ref 135), some (.int v), o2, some (.int (nI q)), some (.int (nI i))] [] h Q := by
  intro j
  induction j with
  | zero =>
    intro i q h t hi hq M hb K
    have e1 : ¬ nI i < nI q := nI_nlt (by omega) (by omega)
    simp only [k_114_255, k_114_257, k_114_258, k_114_279, e1, if_false, am_cat, am_kill, Value.category, List.map_cons, List.map_nil, List.sum_cons, List.sum_nil, Option.toList_some, Option.toList_none, List.cons_append, List.nil_append, List.length_cons, List.length_nil, List.getD_cons_succ, List.getD_cons_zero, List.set_cons_succ, List.set_cons_zero, Nat.reduceAdd, Nat.reduceLT, Nat.reduceLeDiff, Nat.zero_le, Nat.zero_add, Nat.add_zero]
    exact K h (by rw [show brs 0 = [] from rfl, List.append_nil]; exact M)
  | succ j ih =>
    intro i q h t hi hq M hb K
    have e1 : nI i < nI q := nI_lt (by omega) (by omega)
    simp only [k_114_255, k_114_257, k_114_258, k_114_261, k_114_261N, k_114_262, k_114_264, e1, if_true, M.ov hP, am_cat, am_kill, Value.category, List.map_cons, List.map_nil, List.sum_cons, List.sum_nil, Option.toList_some, Option.toList_none, List.cons_append, List.nil_append, List.length_cons, List.length_nil, List.getD_cons_succ, List.getD_cons_zero, List.set_cons_succ, List.set_cons_zero, Nat.reduceAdd, Nat.reduceLT, Nat.reduceLeDiff, Nat.zero_le, Nat.zero_add, Nat.add_zero]
    refine mi_put hP hk ⟨by decide, by decide⟩ M (by omega) (fun h1 M1 => ?_)
    simp only [k_114_267, k_114_267N, k_114_268, k_114_270, M1.ov hP, am_cat, am_kill, Value.category, List.map_cons, List.map_nil, List.sum_cons, List.sum_nil, Option.toList_some, Option.toList_none, List.cons_append, List.nil_append, List.length_cons, List.length_nil, List.getD_cons_succ, List.getD_cons_zero, List.set_cons_succ, List.set_cons_zero, Nat.reduceAdd, Nat.reduceLT, Nat.reduceLeDiff, Nat.zero_le, Nat.zero_add, Nat.add_zero]
    refine mi_put hP hk ⟨by decide, by decide⟩ M1 (by rw [List.length_append]; show t.length + 1 < _; omega) (fun h2 M2 => ?_)
    simp only [k_114_273, k_114_276, nI_1, am_cat, am_kill, Value.category, List.map_cons, List.map_nil, List.sum_cons, List.sum_nil, Option.toList_some, Option.toList_none, List.cons_append, List.nil_append, List.length_cons, List.length_nil, List.getD_cons_succ, List.getD_cons_zero, List.set_cons_succ, List.set_cons_zero, Nat.reduceAdd, Nat.reduceLT, Nat.reduceLeDiff, Nat.zero_le, Nat.zero_add, Nat.add_zero]
    rw [List.append_assoc] at M2
    refine ih (i + 1) q h2 _ (by omega) hq M2 (by rw [List.length_append]; show t.length + 2 + _ < _; omega) (fun h3 M3 => ?_)
    exact K h3 (by rw [List.append_assoc] at M3; exact M3)
theorem mi_an_scan (hP : P.length = 135) (hk : k < 4) {p : Nat} {c : Int32} {o4 : Option Value} {b q : Nat} (hc : c ≠ 91) (T : At A0 p b c q) (M : MS P S n0 A0 k t u ar w nl h) : ∀ (j i : Nat), i + j = b → (wp d 114 4 [some (.ref 135), some (.int (nI p)), some (.int (nI (p + i))), some (.int 0), o4] [] h Q ↔ wp d 114 21 [some (.ref 135), some (.int (nI p)), some (.int (nI (p + b))), some (.int 0), o4] [] h Q) := by
  obtain ⟨n, A, rfl, m1, m2, m3, m4, m5, m6, m7, m8⟩ := M
  obtain ⟨t1, t2, t3, t4⟩ := T
  have mA : A 1 = A0 1 := m7 1 (by decide)
  intro j
  induction j with
  | zero =>
    intro i hi
    obtain rfl : i = b := by omega
    simp only [k_114_4, k_114_4N, k_114_8, k_114_5, ogw hP, fw_11 hP, am_cat, am_kill, Value.category, List.map_cons, List.map_nil, List.sum_cons, List.sum_nil, Option.toList_some, Option.toList_none, List.cons_append, List.nil_append, List.length_cons, List.length_nil, List.getD_cons_succ, List.getD_cons_zero, List.set_cons_succ, List.set_cons_zero, Nat.reduceAdd, Nat.reduceLT, Nat.reduceLeDiff, Nat.zero_le, Nat.zero_add, Nat.add_zero]
    rw [k_114_9 (ow_1 hP (by omega)), aw_1 hP (by omega), mA, t2]
    simp only [k_114_10, k_114_12, hc, if_false]
  | succ j ih =>
    intro i hi
    simp only [k_114_4, k_114_4N, k_114_8, k_114_5, ogw hP, fw_11 hP, am_cat, am_kill, Value.category, List.map_cons, List.map_nil, List.sum_cons, List.sum_nil, Option.toList_some, Option.toList_none, List.cons_append, List.nil_append, List.length_cons, List.length_nil, List.getD_cons_succ, List.getD_cons_zero, List.set_cons_succ, List.set_cons_zero, Nat.reduceAdd, Nat.reduceLT, Nat.reduceLeDiff, Nat.zero_le, Nat.zero_add, Nat.add_zero]
    rw [k_114_9 (ow_1 hP (by omega)), aw_1 hP (by omega), mA, t1 i (by omega)]
    simp only [k_114_10, k_114_12, k_114_15, k_114_18, if_true, nI_1, am_cat, am_kill, Value.category, List.map_cons, List.map_nil, List.sum_cons, List.sum_nil, Option.toList_some, Option.toList_none, List.cons_append, List.nil_append, List.length_cons, List.length_nil, List.getD_cons_succ, List.getD_cons_zero, List.set_cons_succ, List.set_cons_zero, Nat.reduceAdd, Nat.reduceLT, Nat.reduceLeDiff, Nat.zero_le, Nat.zero_add, Nat.add_zero]
    exact ih (i + 1) (by omega)
theorem mi_arN (hP : P.length = 135) (hk : k < 4) {p : Nat} {τ : Ty} (hτ : okT τ) (T : At A0 p τ.1 τ.2.1 τ.2.2) (M : MS P S n0 A0 k t u ar w nl h) (hb : t.length < 2 ^ 28) (K : ∀ h', MS P S n0 A0 k (t ++ arN τ) u ar w nl h' → Q none h') : wp (d + 2) 114 0 [some (.ref 135), some (.int (nI p)), none, none, none] [] h Q := by
  obtain ⟨h1, h2, h3⟩ := hτ
  obtain ⟨t1, t2, t3, t4⟩ := id T
  have hl : τ.2.1 = 79 ∨ τ.2.1 = 90 ∨ τ.2.1 = 66 ∨ τ.2.1 = 67 ∨ τ.2.1 = 83 ∨ τ.2.1 = 73 ∨ τ.2.1 = 74 ∨ τ.2.1 = 70 ∨ τ.2.1 = 68 ∨ τ.2.1 = 84 := by simpa [sgl] using h3
  have hc : τ.2.1 ≠ 91 := by rcases hl with e | e | e | e | e | e | e | e | e | e <;> rw [e] <;> decide
  have hel := elN_len τ.2.1
  simp only [k_114_0, k_114_1, k_114_2, k_114_3, am_cat, am_kill, Value.category, List.map_cons, List.map_nil, List.sum_cons, List.sum_nil, Option.toList_some, Option.toList_none, List.cons_append, List.nil_append, List.length_cons, List.length_nil, List.getD_cons_succ, List.getD_cons_zero, List.set_cons_succ, List.set_cons_zero, Nat.reduceAdd, Nat.reduceLT, Nat.reduceLeDiff, Nat.zero_le, Nat.zero_add, Nat.add_zero]
  have sc := mi_an_scan (d := d + 2) (Q := Q) (o4 := none) hP hk hc T M τ.1 0 (by omega)
  rw [Nat.add_zero] at sc
  refine sc.mpr ?_
  have e1 : nI (p + τ.1) - nI p = nI τ.1 := by rw [nI_sub2 (by omega)]; congr 1; omega
  have fin : ∀ (h : AH) (t : List Int32), MS P S n0 A0 k t u ar w nl h → t.length < 2 ^ 28 + 20 → (∀ h', MS P S n0 A0 k (t ++ brs τ.1) u ar w nl h' → Q none h') → wp (d + 2) 114 252 [some (.ref 135), some (.int (nI p)), some (.int (nI (p + τ.1))), some (.int (nI τ.1)), none] [] h Q := by
    intro h t M hb K
    simp only [k_114_252, k_114_253, am_cat, am_kill, Value.category, List.map_cons, List.map_nil, List.sum_cons, List.sum_nil, Option.toList_some, Option.toList_none, List.cons_append, List.nil_append, List.length_cons, List.length_nil, List.getD_cons_succ, List.getD_cons_zero, List.set_cons_succ, List.set_cons_zero, Nat.reduceAdd, Nat.reduceLT, Nat.reduceLeDiff, Nat.zero_le, Nat.zero_add, Nat.add_zero]
    exact mi_an_loop hP hk τ.1 0 τ.1 h t (by omega) (by omega) M (by omega) K
  have wordc : ∀ (x : Int64) (pc : Nat) (v : List Int32), wd x = v → v.length ≤ 7 → (∀ h', wp (d + 2) 114 pc [some (.ref 135), some (.int (nI p)), some (.int (nI (p + τ.1))), some (.int (nI τ.1)), none] [] h' Q ↔ wp (d + 2) 114 252 [some (.ref 135), some (.int (nI p)), some (.int (nI (p + τ.1))), some (.int (nI τ.1)), none] [] h' Q) → (∀ h', MS P S n0 A0 k (t ++ (v ++ brs τ.1)) u ar w nl h' → Q none h') → wp (d + 1) 105 0 [some (.ref 135), some (.long x), none, none] [] h (fun r h1 => wp (d + 2) 114 pc [some (.ref 135), some (.int (nI p)), some (.int (nI (p + τ.1))), some (.int (nI τ.1)), none] (r.toList ++ []) h1 Q) := by
    intro x pc v hv hvl hpc K
    refine mi_wordc hP hk v hv M (by omega) (fun h1 M1 => ?_)
    show wp (d + 2) 114 pc _ [] h1 Q
    rw [hpc]
    refine fin h1 _ M1 (by rw [List.length_append]; omega) (fun h2 M2 => ?_)
    exact K h2 (by rw [List.append_assoc] at M2; exact M2)
  have ea : ∀ c, τ.2.1 = c → c ≠ 79 → arN τ = elN c ++ brs τ.1 := by
    intro c hc hc2
    unfold arN
    rw [hc, if_neg hc2]
    rfl
  have ov := M.ov hP
  obtain ⟨n, A, hh, m1, m2, m3, m4, m5, m6, m7, m8⟩ := id M
  have mA : A 1 = A0 1 := m7 1 (by decide)
  have rd : ∀ (j : Nat) (y : Int32), j < 240 → A0 1 j = y → okA am_isC h 137 (nI j) ∧ arr h 137 (nI j) = .int y := by
    intro j y hj hy
    rw [hh]
    exact ⟨ow_1 hP hj, by rw [aw_1 hP hj, mA, hy]⟩
  have og : okG h 135 8 11 ∧ fld h 135 11 = .ref 137 := by
    rw [hh]
    exact ⟨(ogw hP).mpr (by decide), fw_11 hP⟩
  have r1 := rd (p + τ.1) τ.2.1 (by omega) t2
  simp only [k_114_21, k_114_22, k_114_23, k_114_24, k_114_25, k_114_25N, e1, am_cat, am_kill, Value.category, List.map_cons, List.map_nil, List.sum_cons, List.sum_nil, Option.toList_some, Option.toList_none, List.cons_append, List.nil_append, List.length_cons, List.length_nil, List.getD_cons_succ, List.getD_cons_zero, List.set_cons_succ, List.set_cons_zero, Nat.reduceAdd, Nat.reduceLT, Nat.reduceLeDiff, Nat.zero_le, Nat.zero_add, Nat.add_zero]
  rw [k_114_26 og.1, og.2]
  simp only [k_114_29, am_cat, am_kill, Value.category, List.map_cons, List.map_nil, List.sum_cons, List.sum_nil, Option.toList_some, Option.toList_none, List.cons_append, List.nil_append, List.length_cons, List.length_nil, List.getD_cons_succ, List.getD_cons_zero, List.set_cons_succ, List.set_cons_zero, Nat.reduceAdd, Nat.reduceLT, Nat.reduceLeDiff, Nat.zero_le, Nat.zero_add, Nat.add_zero]
  rw [k_114_30 r1.1, r1.2, k_114_31]
  rcases hl with e | e | e | e | e | e | e | e | e | e
  all_goals rw [e]
  all_goals repeat (first | rw [if_pos rfl] | rw [if_neg (by decide)])
  · have r2 := rd (p + τ.1 + 1) (nI (48 + τ.2.2)) (by omega) (t3 e)
    have hn1 : nI (p + τ.1) + 1 = nI (p + τ.1 + 1) := nI_1 _
    simp only [k_114_234, k_114_234N, k_114_235, k_114_237, ov, am_cat, am_kill, Value.category, List.map_cons, List.map_nil, List.sum_cons, List.sum_nil, Option.toList_some, Option.toList_none, List.cons_append, List.nil_append, List.length_cons, List.length_nil, List.getD_cons_succ, List.getD_cons_zero, List.set_cons_succ, List.set_cons_zero, Nat.reduceAdd, Nat.reduceLT, Nat.reduceLeDiff, Nat.zero_le, Nat.zero_add, Nat.add_zero]
    refine mi_put hP hk ⟨by decide, by decide⟩ M (by omega) (fun h4 M4 => ?_)
    obtain ⟨n', A', hh', -, -, -, -, -, -, m7', -⟩ := id M4
    have r2' : okA am_isC h4 137 (nI (p + τ.1 + 1)) ∧ arr h4 137 (nI (p + τ.1 + 1)) = .int (nI (48 + τ.2.2)) := by
      rw [hh']
      exact ⟨ow_1 hP (by omega), by rw [aw_1 hP (by omega), m7' 1 (by decide), t3 e]⟩
    have og' : okG h4 135 8 11 ∧ fld h4 135 11 = .ref 137 := by
      rw [hh']
      exact ⟨(ogw hP).mpr (by decide), fw_11 hP⟩
    simp only [k_114_240, k_114_240N, k_114_241, k_114_241N, am_cat, am_kill, Value.category, List.map_cons, List.map_nil, List.sum_cons, List.sum_nil, Option.toList_some, Option.toList_none, List.cons_append, List.nil_append, List.length_cons, List.length_nil, List.getD_cons_succ, List.getD_cons_zero, List.set_cons_succ, List.set_cons_zero, Nat.reduceAdd, Nat.reduceLT, Nat.reduceLeDiff, Nat.zero_le, Nat.zero_add, Nat.add_zero]
    rw [k_114_242 og'.1, og'.2]
    simp only [k_114_245, k_114_246, k_114_247, hn1, am_cat, am_kill, Value.category, List.map_cons, List.map_nil, List.sum_cons, List.sum_nil, Option.toList_some, Option.toList_none, List.cons_append, List.nil_append, List.length_cons, List.length_nil, List.getD_cons_succ, List.getD_cons_zero, List.set_cons_succ, List.set_cons_zero, Nat.reduceAdd, Nat.reduceLT, Nat.reduceLeDiff, Nat.zero_le, Nat.zero_add, Nat.add_zero]
    rw [k_114_248 r2'.1, r2'.2]
    simp only [k_114_249, M4.ov hP, am_cat, am_kill, Value.category, List.map_cons, List.map_nil, List.sum_cons, List.sum_nil, Option.toList_some, Option.toList_none, List.cons_append, List.nil_append, List.length_cons, List.length_nil, List.getD_cons_succ, List.getD_cons_zero, List.set_cons_succ, List.set_cons_zero, Nat.reduceAdd, Nat.reduceLT, Nat.reduceLeDiff, Nat.zero_le, Nat.zero_add, Nat.add_zero]
    refine mi_put hP hk (chr_nI (by omega)) M4 (by rw [List.length_append]; show t.length + 1 < _; omega) (fun h5 M5 => ?_)
    refine fin h5 _ M5 (by simp only [List.length_append, List.length_cons, List.length_nil]; omega) (fun h6 M6 => ?_)
    refine K h6 ?_
    have ea2 : arN τ = [67] ++ ([nI (48 + τ.2.2)] ++ brs τ.1) := by
      unfold arN
      rw [e, if_pos rfl]
      rfl
    rw [ea2]
    simp only [List.append_assoc] at M6
    exact M6
  · simp only [k_114_144, k_114_144N, k_114_145, k_114_148, ov, am_cat, am_kill, Value.category, List.map_cons, List.map_nil, List.sum_cons, List.sum_nil, Option.toList_some, Option.toList_none, List.cons_append, List.nil_append, List.length_cons, List.length_nil, List.getD_cons_succ, List.getD_cons_zero, List.set_cons_succ, List.set_cons_zero, Nat.reduceAdd, Nat.reduceLT, Nat.reduceLeDiff, Nat.zero_le, Nat.zero_add, Nat.add_zero]
    exact wordc _ 151 (elN 90) (by decide) (by decide) (fun h' => by simp only [k_114_151]) (by rw [← ea 90 e (by decide)]; exact K)
  · simp only [k_114_154, k_114_154N, k_114_155, k_114_158, ov, am_cat, am_kill, Value.category, List.map_cons, List.map_nil, List.sum_cons, List.sum_nil, Option.toList_some, Option.toList_none, List.cons_append, List.nil_append, List.length_cons, List.length_nil, List.getD_cons_succ, List.getD_cons_zero, List.set_cons_succ, List.set_cons_zero, Nat.reduceAdd, Nat.reduceLT, Nat.reduceLeDiff, Nat.zero_le, Nat.zero_add, Nat.add_zero]
    exact wordc _ 161 (elN 66) (by decide) (by decide) (fun h' => by simp only [k_114_161]) (by rw [← ea 66 e (by decide)]; exact K)
  · simp only [k_114_164, k_114_164N, k_114_165, k_114_168, ov, am_cat, am_kill, Value.category, List.map_cons, List.map_nil, List.sum_cons, List.sum_nil, Option.toList_some, Option.toList_none, List.cons_append, List.nil_append, List.length_cons, List.length_nil, List.getD_cons_succ, List.getD_cons_zero, List.set_cons_succ, List.set_cons_zero, Nat.reduceAdd, Nat.reduceLT, Nat.reduceLeDiff, Nat.zero_le, Nat.zero_add, Nat.add_zero]
    exact wordc _ 171 (elN 67) (by decide) (by decide) (fun h' => by simp only [k_114_171]) (by rw [← ea 67 e (by decide)]; exact K)
  · simp only [k_114_174, k_114_174N, k_114_175, k_114_178, ov, am_cat, am_kill, Value.category, List.map_cons, List.map_nil, List.sum_cons, List.sum_nil, Option.toList_some, Option.toList_none, List.cons_append, List.nil_append, List.length_cons, List.length_nil, List.getD_cons_succ, List.getD_cons_zero, List.set_cons_succ, List.set_cons_zero, Nat.reduceAdd, Nat.reduceLT, Nat.reduceLeDiff, Nat.zero_le, Nat.zero_add, Nat.add_zero]
    exact wordc _ 181 (elN 83) (by decide) (by decide) (fun h' => by simp only [k_114_181]) (by rw [← ea 83 e (by decide)]; exact K)
  · simp only [k_114_184, k_114_184N, k_114_185, k_114_188, ov, am_cat, am_kill, Value.category, List.map_cons, List.map_nil, List.sum_cons, List.sum_nil, Option.toList_some, Option.toList_none, List.cons_append, List.nil_append, List.length_cons, List.length_nil, List.getD_cons_succ, List.getD_cons_zero, List.set_cons_succ, List.set_cons_zero, Nat.reduceAdd, Nat.reduceLT, Nat.reduceLeDiff, Nat.zero_le, Nat.zero_add, Nat.add_zero]
    exact wordc _ 191 (elN 73) (by decide) (by decide) (fun h' => by simp only [k_114_191]) (by rw [← ea 73 e (by decide)]; exact K)
  · simp only [k_114_194, k_114_194N, k_114_195, k_114_198, ov, am_cat, am_kill, Value.category, List.map_cons, List.map_nil, List.sum_cons, List.sum_nil, Option.toList_some, Option.toList_none, List.cons_append, List.nil_append, List.length_cons, List.length_nil, List.getD_cons_succ, List.getD_cons_zero, List.set_cons_succ, List.set_cons_zero, Nat.reduceAdd, Nat.reduceLT, Nat.reduceLeDiff, Nat.zero_le, Nat.zero_add, Nat.add_zero]
    exact wordc _ 201 (elN 74) (by decide) (by decide) (fun h' => by simp only [k_114_201]) (by rw [← ea 74 e (by decide)]; exact K)
  · simp only [k_114_204, k_114_204N, k_114_205, k_114_208, ov, am_cat, am_kill, Value.category, List.map_cons, List.map_nil, List.sum_cons, List.sum_nil, Option.toList_some, Option.toList_none, List.cons_append, List.nil_append, List.length_cons, List.length_nil, List.getD_cons_succ, List.getD_cons_zero, List.set_cons_succ, List.set_cons_zero, Nat.reduceAdd, Nat.reduceLT, Nat.reduceLeDiff, Nat.zero_le, Nat.zero_add, Nat.add_zero]
    exact wordc _ 211 (elN 70) (by decide) (by decide) (fun h' => by simp only [k_114_211]) (by rw [← ea 70 e (by decide)]; exact K)
  · simp only [k_114_214, k_114_214N, k_114_215, k_114_218, ov, am_cat, am_kill, Value.category, List.map_cons, List.map_nil, List.sum_cons, List.sum_nil, Option.toList_some, Option.toList_none, List.cons_append, List.nil_append, List.length_cons, List.length_nil, List.getD_cons_succ, List.getD_cons_zero, List.set_cons_succ, List.set_cons_zero, Nat.reduceAdd, Nat.reduceLT, Nat.reduceLeDiff, Nat.zero_le, Nat.zero_add, Nat.add_zero]
    exact wordc _ 221 (elN 68) (by decide) (by decide) (fun h' => by simp only [k_114_221]) (by rw [← ea 68 e (by decide)]; exact K)
  · simp only [k_114_224, k_114_224N, k_114_225, k_114_228, ov, am_cat, am_kill, Value.category, List.map_cons, List.map_nil, List.sum_cons, List.sum_nil, Option.toList_some, Option.toList_none, List.cons_append, List.nil_append, List.length_cons, List.length_nil, List.getD_cons_succ, List.getD_cons_zero, List.set_cons_succ, List.set_cons_zero, Nat.reduceAdd, Nat.reduceLT, Nat.reduceLeDiff, Nat.zero_le, Nat.zero_add, Nat.add_zero]
    exact wordc _ 231 (elN 84) (by decide) (by decide) (fun h' => by simp only [k_114_231]) (by rw [← ea 84 e (by decide)]; exact K)
end MLI
