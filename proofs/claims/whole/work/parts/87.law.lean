/-! THE LAW -/
theorem sp_cell {d : Nat} {h : AH} {xs : List Int32} {Q : Option Value → AH → Prop} (hx : h[104]? = some (.inl .int, xs.map Value.int)) (hl : xs.length ≤ 1025) : wp d 92 0 [some (.ref 104), some (.int 0)] [] h Q ↔ Q (some (.int (xs.getD 0 0))) h := by
  have e0 : ((0 : Int32) < Int32.ofNat (xs.map Value.int).length) ↔ 0 < xs.length := by
    have := nI_ltI (a := 0) (b := (xs.map Value.int).length) (by omega) (by rw [List.length_map]; omega)
    rw [List.length_map] at this ⊢
    exact this
  simp only [k_92_0, k_92_1, k_92_1N, k_92_2, k_92_3, isA_iff hx, alen_of hx, e0, am_cat, am_kill, Value.category, List.map_cons, List.map_nil, List.sum_cons, List.sum_nil, Option.toList_some, Option.toList_none, List.cons_append, List.nil_append, List.length_cons, List.length_nil, List.getD_cons_succ, List.getD_cons_zero, List.set_cons_succ, List.set_cons_zero, Nat.reduceAdd, Nat.reduceLT, Nat.reduceLeDiff, Nat.zero_le, Nat.zero_add, Nat.add_zero]
  by_cases c : 0 < xs.length
  · have g1 : xs[0]? = some xs[0] := List.getElem?_eq_getElem c
    obtain ⟨o1, o2⟩ := arg_at (i := 0) hx g1 (by decide)
    have e1 : nI 0 = 0 := rfl
    rw [e1] at o1 o2
    rw [if_pos c]
    simp only [k_92_6, k_92_6N, k_92_7, am_cat, am_kill, Value.category, List.map_cons, List.map_nil, List.sum_cons, List.sum_nil, Option.toList_some, Option.toList_none, List.cons_append, List.nil_append, List.length_cons, List.length_nil, List.getD_cons_succ, List.getD_cons_zero, List.set_cons_succ, List.set_cons_zero, Nat.reduceAdd, Nat.reduceLT, Nat.reduceLeDiff, Nat.zero_le, Nat.zero_add, Nat.add_zero]
    rw [k_92_8 o1, o2]
    simp only [k_92_9, k_92_13, am_cat, am_kill, Value.category, List.map_cons, List.map_nil, List.sum_cons, List.sum_nil, Option.toList_some, Option.toList_none, List.cons_append, List.nil_append, List.length_cons, List.length_nil, List.getD_cons_succ, List.getD_cons_zero, List.set_cons_succ, List.set_cons_zero, Nat.reduceAdd, Nat.reduceLT, Nat.reduceLeDiff, Nat.zero_le, Nat.zero_add, Nat.add_zero]
    rw [List.getD_eq_getElem?_getD, g1]
    rfl
  · rw [if_neg c]
    simp only [k_92_12, k_92_13, am_cat, am_kill, Value.category, List.map_cons, List.map_nil, List.sum_cons, List.sum_nil, Option.toList_some, Option.toList_none, List.cons_append, List.nil_append, List.length_cons, List.length_nil, List.getD_cons_succ, List.getD_cons_zero, List.set_cons_succ, List.set_cons_zero, Nat.reduceAdd, Nat.reduceLT, Nat.reduceLeDiff, Nat.zero_le, Nat.zero_add, Nat.add_zero]
    rw [List.getD_eq_getElem?_getD, List.getElem?_eq_none (by omega)]
    rfl
theorem law_all (xs : List Int32) (hl : xs.length ≤ 1025) : law_ok 70 xs := by
  have hN := sN5
  have hg : (h0 xs).length = 105 := by rw [h0_len, hN]
  have hS0 : Sta (h0 xs) := by
    intro r hr
    unfold h0
    rw [List.getElem?_append_left (by rw [sH_len]; exact hr)]
  have x0 : (h0 xs)[104]? = some (.inl .int, xs.map Value.int) := by
    have e : sH.length = 104 := by rw [sH_len]; rfl
    unfold h0
    rw [List.getElem?_append_right (by omega), e]
    rfl
  have x1 : ∀ Z : AH, (h0 xs ++ Z)[104]? = some (.inl .int, xs.map Value.int) := fun Z => by rw [List.getElem?_append_left (by omega)]; exact x0
  generalize hw : xs.getD 0 0 = w
  have hP := P_len (x := w) hg
  show wp (8 + 62) 0 0 [some (.ref 104), none, none, none] [] (h0 xs) _
  simp only [k_0_3, k_0_3i, k_0_4, k_0_4N, k_0_5, k_0_0, k_0_6, hg, sp_cell (x1 _) hl, hw, am_cat, am_kill, Value.category, List.map_cons, List.map_nil, List.sum_cons, List.sum_nil, Option.toList_some, Option.toList_none, List.cons_append, List.nil_append, List.length_cons, List.length_nil, List.getD_cons_succ, List.getD_cons_zero, List.set_cons_succ, List.set_cons_zero, Nat.reduceAdd, Nat.reduceLT, Nat.reduceLeDiff, Nat.zero_le, Nat.zero_add, Nat.add_zero]
  simp only [k_0_9, am_cat, am_kill, Value.category, List.map_cons, List.map_nil, List.sum_cons, List.sum_nil, Option.toList_some, Option.toList_none, List.cons_append, List.nil_append, List.length_cons, List.length_nil, List.getD_cons_succ, List.getD_cons_zero, List.set_cons_succ, List.set_cons_zero, Nat.reduceAdd, Nat.reduceLT, Nat.reduceLeDiff, Nat.zero_le, Nat.zero_add, Nat.add_zero]
  refine cs_new hg ?_
  simp only [k_0_12, k_0_12N, k_0_16, k_0_16i, k_0_17, k_0_17N, k_0_18, k_0_13, k_0_19, am_kill, hP, am_cat, am_kill, Value.category, List.map_cons, List.map_nil, List.sum_cons, List.sum_nil, Option.toList_some, Option.toList_none, List.cons_append, List.nil_append, List.length_cons, List.length_nil, List.getD_cons_succ, List.getD_cons_zero, List.set_cons_succ, List.set_cons_zero, Nat.reduceAdd, Nat.reduceLT, Nat.reduceLeDiff, Nat.zero_le, Nat.zero_add, Nat.add_zero]
  rw [sp_cell (by rw [List.append_assoc]; exact x1 _) hl, hw]
  simp only [k_0_22, am_cat, am_kill, Value.category, List.map_cons, List.map_nil, List.sum_cons, List.sum_nil, Option.toList_some, Option.toList_none, List.cons_append, List.nil_append, List.length_cons, List.length_nil, List.getD_cons_succ, List.getD_cons_zero, List.set_cons_succ, List.set_cons_zero, Nat.reduceAdd, Nat.reduceLT, Nat.reduceLeDiff, Nat.zero_le, Nat.zero_add, Nat.add_zero]
  refine ms_new hP ?_
  simp only [k_0_25, k_0_25N, k_0_26, k_0_27, am_kill, am_cat, am_kill, Value.category, List.map_cons, List.map_nil, List.sum_cons, List.sum_nil, Option.toList_some, Option.toList_none, List.cons_append, List.nil_append, List.length_cons, List.length_nil, List.getD_cons_succ, List.getD_cons_zero, List.set_cons_succ, List.set_cons_zero, Nat.reduceAdd, Nat.reduceLT, Nat.reduceLeDiff, Nat.zero_le, Nat.zero_add, Nat.add_zero]
  refine lz_loop hl (Nat.le_refl _) 512 0 (s0 w) (hS (h0 xs) w) rfl ⟨_, _, _, _, hP, rfl, st_ci hg hS0, st_mi w, st_si w, ?_⟩
  rw [hS_lo hg (by decide)]
  exact x0
