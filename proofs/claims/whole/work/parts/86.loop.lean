/-! THE LAW'S LOOP -/
theorem SI_taken {s : St} (I : SI s) : SI (oTaken s).1 := by
  obtain ⟨W, L, R, τ, D, T, tk, Ls, br⟩ := s
  exact I
theorem SI_at {x : Int32} {s : St} (I : SI s) : SI (oAt x s).1 := by
  obtain ⟨W, L, R, τ, D, T, tk, Ls, br⟩ := s
  exact I
theorem SI_line {x : Int32} {s : St} (I : SI s) : SI (oLine x s).1 := by
  obtain ⟨W, L, R, τ, D, T, tk, Ls, br⟩ := s
  exact I
theorem SI_count {x : Int32} {s : St} (I : SI s) : SI (oCount x s).1 := by
  obtain ⟨W, L, R, τ, D, T, tk, Ls, br⟩ := s
  exact I
section LW
variable {B k d i : Nat} {s : St} {h : AH} {xs : List Int32} {x : Int32} {Q : Option Value → AH → Prop}
theorem Lp.nxt {P S : AH} {n n' : Nat → Int32} {A A' : Nat → Nat → Int32} (hP : P.length = 135) (C : CI B s k (wr P S n A)) (hx : (wr P S n A)[104]? = some (.inl .int, xs.map Value.int)) (M : MI s n' A') (I : SI s) : Lp B xs s k (wr P S n' A') :=
  ⟨P, S, n', A', hP, rfl, C.mod hP, M, I, by rw [wr_lo hP (by decide)] at hx ⊢; exact hx⟩
theorem arg_at (hx : h[104]? = some (.inl .int, xs.map Value.int)) (hi : xs[i]? = some x) (hl : i < 2 ^ 31) : okA am_isI h 104 (nI i) ∧ arr h 104 (nI i) = .int x := by
  have hl2 := (List.getElem?_eq_some_iff.mp hi).1
  refine ⟨⟨_, _, hx, rfl, nI_pos hl, by rw [nI_clamp hl, List.length_map]; exact hl2⟩, ?_⟩
  rw [arr_of hx, nI_clamp hl, List.getD_eq_getElem?_getD, List.getElem?_map, hi]
  rfl
theorem lz_type (H : Lp B xs s k h) (ha : xs[i + 1]? = some x) (hl : i + 1 < 2 ^ 31) (K : ∀ h', Lp B xs (oType x s).1 (k + 1) h' → wp (d + 62) 0 354 [some (.ref 104), some (.ref 105), some (.ref 135), some (.int (nI i))] [] h' Q) : wp (d + 62) 0 112 [some (.ref 104), some (.ref 105), some (.ref 135), some (.int (nI i))] [] h Q := by
  obtain ⟨P, S, n, A, hP, rfl, C, M, I, hx⟩ := H
  obtain ⟨o1, o2⟩ := arg_at hx ha hl
  simp only [k_0_112, k_0_112N, k_0_113, k_0_113N, k_0_114, k_0_115, k_0_116, nI_1, am_cat, am_kill, Value.category, List.map_cons, List.map_nil, List.sum_cons, List.sum_nil, Option.toList_some, Option.toList_none, List.cons_append, List.nil_append, List.length_cons, List.length_nil, List.getD_cons_succ, List.getD_cons_zero, List.set_cons_succ, List.set_cons_zero, Nat.reduceAdd, Nat.reduceLT, Nat.reduceLeDiff, Nat.zero_le, Nat.zero_add, Nat.add_zero]
  rw [k_0_117 o1, o2]
  simp only [k_0_118, C.ov, am_cat, am_kill, Value.category, List.map_cons, List.map_nil, List.sum_cons, List.sum_nil, Option.toList_some, Option.toList_none, List.cons_append, List.nil_append, List.length_cons, List.length_nil, List.getD_cons_succ, List.getD_cons_zero, List.set_cons_succ, List.set_cons_zero, Nat.reduceAdd, Nat.reduceLT, Nat.reduceLeDiff, Nat.zero_le, Nat.zero_add, Nat.add_zero]
  refine co_type C (fun h1 C1 F1 => ?_)
  obtain ⟨P1, S1, hP1, rfl, f⟩ := dec_wr hP F1
  rw [← f 104 (by decide)] at hx
  clear f F1 C
  obtain ⟨o3, o4⟩ := arg_at hx ha hl
  simp only [k_0_121, k_0_121N, k_0_122, k_0_122N, k_0_123, k_0_124, k_0_125, nI_1, am_cat, am_kill, Value.category, List.map_cons, List.map_nil, List.sum_cons, List.sum_nil, Option.toList_some, Option.toList_none, List.cons_append, List.nil_append, List.length_cons, List.length_nil, List.getD_cons_succ, List.getD_cons_zero, List.set_cons_succ, List.set_cons_zero, Nat.reduceAdd, Nat.reduceLT, Nat.reduceLeDiff, Nat.zero_le, Nat.zero_add, Nat.add_zero]
  rw [k_0_126 o3, o4]
  simp only [k_0_127, ovw hP1, am_cat, am_kill, Value.category, List.map_cons, List.map_nil, List.sum_cons, List.sum_nil, Option.toList_some, Option.toList_none, List.cons_append, List.nil_append, List.length_cons, List.length_nil, List.getD_cons_succ, List.getD_cons_zero, List.set_cons_succ, List.set_cons_zero, Nat.reduceAdd, Nat.reduceLT, Nat.reduceLeDiff, Nat.zero_le, Nat.zero_add, Nat.add_zero]
  refine mo_type hP1 M (fun n2 A2 M2 => ?_)
  simp only [k_0_130, if_true, am_cat, am_kill, Value.category, List.map_cons, List.map_nil, List.sum_cons, List.sum_nil, Option.toList_some, Option.toList_none, List.cons_append, List.nil_append, List.length_cons, List.length_nil, List.getD_cons_succ, List.getD_cons_zero, List.set_cons_succ, List.set_cons_zero, Nat.reduceAdd, Nat.reduceLT, Nat.reduceLeDiff, Nat.zero_le, Nat.zero_add, Nat.add_zero]
  exact K _ (Lp.nxt hP1 C1 hx M2 (SI_type I))
theorem lz_fields (H : Lp B xs s k h) (ha : xs[i + 1]? = some x) (hl : i + 1 < 2 ^ 31) (K : ∀ h', Lp B xs (oFields x s).1 (k + 1) h' → wp (d + 62) 0 354 [some (.ref 104), some (.ref 105), some (.ref 135), some (.int (nI i))] [] h' Q) : wp (d + 62) 0 135 [some (.ref 104), some (.ref 105), some (.ref 135), some (.int (nI i))] [] h Q := by
  obtain ⟨P, S, n, A, hP, rfl, C, M, I, hx⟩ := H
  obtain ⟨o1, o2⟩ := arg_at hx ha hl
  simp only [k_0_135, k_0_135N, k_0_136, k_0_136N, k_0_137, k_0_138, k_0_139, nI_1, am_cat, am_kill, Value.category, List.map_cons, List.map_nil, List.sum_cons, List.sum_nil, Option.toList_some, Option.toList_none, List.cons_append, List.nil_append, List.length_cons, List.length_nil, List.getD_cons_succ, List.getD_cons_zero, List.set_cons_succ, List.set_cons_zero, Nat.reduceAdd, Nat.reduceLT, Nat.reduceLeDiff, Nat.zero_le, Nat.zero_add, Nat.add_zero]
  rw [k_0_140 o1, o2]
  simp only [k_0_141, C.ov, am_cat, am_kill, Value.category, List.map_cons, List.map_nil, List.sum_cons, List.sum_nil, Option.toList_some, Option.toList_none, List.cons_append, List.nil_append, List.length_cons, List.length_nil, List.getD_cons_succ, List.getD_cons_zero, List.set_cons_succ, List.set_cons_zero, Nat.reduceAdd, Nat.reduceLT, Nat.reduceLeDiff, Nat.zero_le, Nat.zero_add, Nat.add_zero]
  refine co_fields I C (fun h1 C1 F1 => ?_)
  obtain ⟨P1, S1, hP1, rfl, f⟩ := dec_wr hP F1
  rw [← f 104 (by decide)] at hx
  clear f F1 C
  obtain ⟨o3, o4⟩ := arg_at hx ha hl
  simp only [k_0_144, k_0_144N, k_0_145, k_0_145N, k_0_146, k_0_147, k_0_148, nI_1, am_cat, am_kill, Value.category, List.map_cons, List.map_nil, List.sum_cons, List.sum_nil, Option.toList_some, Option.toList_none, List.cons_append, List.nil_append, List.length_cons, List.length_nil, List.getD_cons_succ, List.getD_cons_zero, List.set_cons_succ, List.set_cons_zero, Nat.reduceAdd, Nat.reduceLT, Nat.reduceLeDiff, Nat.zero_le, Nat.zero_add, Nat.add_zero]
  rw [k_0_149 o3, o4]
  simp only [k_0_150, ovw hP1, am_cat, am_kill, Value.category, List.map_cons, List.map_nil, List.sum_cons, List.sum_nil, Option.toList_some, Option.toList_none, List.cons_append, List.nil_append, List.length_cons, List.length_nil, List.getD_cons_succ, List.getD_cons_zero, List.set_cons_succ, List.set_cons_zero, Nat.reduceAdd, Nat.reduceLT, Nat.reduceLeDiff, Nat.zero_le, Nat.zero_add, Nat.add_zero]
  refine mo_fields hP1 I M (fun n2 A2 M2 => ?_)
  simp only [k_0_153, if_true, am_cat, am_kill, Value.category, List.map_cons, List.map_nil, List.sum_cons, List.sum_nil, Option.toList_some, Option.toList_none, List.cons_append, List.nil_append, List.length_cons, List.length_nil, List.getD_cons_succ, List.getD_cons_zero, List.set_cons_succ, List.set_cons_zero, Nat.reduceAdd, Nat.reduceLT, Nat.reduceLeDiff, Nat.zero_le, Nat.zero_add, Nat.add_zero]
  exact K _ (Lp.nxt hP1 C1 hx M2 (SI_fields I))
theorem lz_parameters (H : Lp B xs s k h) (K : ∀ h', Lp B xs (oRow 4 s).1 (k + 1) h' → wp (d + 62) 0 354 [some (.ref 104), some (.ref 105), some (.ref 135), some (.int (nI i))] [] h' Q) : wp (d + 62) 0 158 [some (.ref 104), some (.ref 105), some (.ref 135), some (.int (nI i))] [] h Q := by
  obtain ⟨P, S, n, A, hP, rfl, C, M, I, hx⟩ := H
  simp only [k_0_158, k_0_158N, k_0_159, C.ov, am_cat, am_kill, Value.category, List.map_cons, List.map_nil, List.sum_cons, List.sum_nil, Option.toList_some, Option.toList_none, List.cons_append, List.nil_append, List.length_cons, List.length_nil, List.getD_cons_succ, List.getD_cons_zero, List.set_cons_succ, List.set_cons_zero, Nat.reduceAdd, Nat.reduceLT, Nat.reduceLeDiff, Nat.zero_le, Nat.zero_add, Nat.add_zero]
  refine co_parameters I C (fun h1 C1 F1 => ?_)
  obtain ⟨P1, S1, hP1, rfl, f⟩ := dec_wr hP F1
  rw [← f 104 (by decide)] at hx
  clear f F1 C
  simp only [k_0_162, k_0_162N, k_0_163, ovw hP1, am_cat, am_kill, Value.category, List.map_cons, List.map_nil, List.sum_cons, List.sum_nil, Option.toList_some, Option.toList_none, List.cons_append, List.nil_append, List.length_cons, List.length_nil, List.getD_cons_succ, List.getD_cons_zero, List.set_cons_succ, List.set_cons_zero, Nat.reduceAdd, Nat.reduceLT, Nat.reduceLeDiff, Nat.zero_le, Nat.zero_add, Nat.add_zero]
  refine mo_parameters hP1 I M (fun n2 A2 M2 => ?_)
  simp only [k_0_166, if_true, am_cat, am_kill, Value.category, List.map_cons, List.map_nil, List.sum_cons, List.sum_nil, Option.toList_some, Option.toList_none, List.cons_append, List.nil_append, List.length_cons, List.length_nil, List.getD_cons_succ, List.getD_cons_zero, List.set_cons_succ, List.set_cons_zero, Nat.reduceAdd, Nat.reduceLT, Nat.reduceLeDiff, Nat.zero_le, Nat.zero_add, Nat.add_zero]
  exact K _ (Lp.nxt hP1 C1 hx M2 (SI_row (by decide) I))
theorem lz_res (H : Lp B xs s k h) (K : ∀ h', Lp B xs (oRes s).1 (k + 1) h' → wp (d + 62) 0 354 [some (.ref 104), some (.ref 105), some (.ref 135), some (.int (nI i))] [] h' Q) : wp (d + 62) 0 171 [some (.ref 104), some (.ref 105), some (.ref 135), some (.int (nI i))] [] h Q := by
  obtain ⟨P, S, n, A, hP, rfl, C, M, I, hx⟩ := H
  simp only [k_0_171, k_0_171N, k_0_172, C.ov, am_cat, am_kill, Value.category, List.map_cons, List.map_nil, List.sum_cons, List.sum_nil, Option.toList_some, Option.toList_none, List.cons_append, List.nil_append, List.length_cons, List.length_nil, List.getD_cons_succ, List.getD_cons_zero, List.set_cons_succ, List.set_cons_zero, Nat.reduceAdd, Nat.reduceLT, Nat.reduceLeDiff, Nat.zero_le, Nat.zero_add, Nat.add_zero]
  refine co_res I C (fun h1 C1 F1 => ?_)
  obtain ⟨P1, S1, hP1, rfl, f⟩ := dec_wr hP F1
  rw [← f 104 (by decide)] at hx
  clear f F1 C
  simp only [k_0_175, k_0_175N, k_0_176, ovw hP1, am_cat, am_kill, Value.category, List.map_cons, List.map_nil, List.sum_cons, List.sum_nil, Option.toList_some, Option.toList_none, List.cons_append, List.nil_append, List.length_cons, List.length_nil, List.getD_cons_succ, List.getD_cons_zero, List.set_cons_succ, List.set_cons_zero, Nat.reduceAdd, Nat.reduceLT, Nat.reduceLeDiff, Nat.zero_le, Nat.zero_add, Nat.add_zero]
  refine mo_res hP1 I M (fun n2 A2 M2 => ?_)
  simp only [k_0_179, if_true, am_cat, am_kill, Value.category, List.map_cons, List.map_nil, List.sum_cons, List.sum_nil, Option.toList_some, Option.toList_none, List.cons_append, List.nil_append, List.length_cons, List.length_nil, List.getD_cons_succ, List.getD_cons_zero, List.set_cons_succ, List.set_cons_zero, Nat.reduceAdd, Nat.reduceLT, Nat.reduceLeDiff, Nat.zero_le, Nat.zero_add, Nat.add_zero]
  exact K _ (Lp.nxt hP1 C1 hx M2 (SI_res I))
theorem lz_data (H : Lp B xs s k h) (ha : xs[i + 1]? = some x) (hl : i + 1 < 2 ^ 31) (K : ∀ h', Lp B xs (oData x s).1 (k + 1) h' → wp (d + 62) 0 354 [some (.ref 104), some (.ref 105), some (.ref 135), some (.int (nI i))] [] h' Q) : wp (d + 62) 0 184 [some (.ref 104), some (.ref 105), some (.ref 135), some (.int (nI i))] [] h Q := by
  obtain ⟨P, S, n, A, hP, rfl, C, M, I, hx⟩ := H
  obtain ⟨o1, o2⟩ := arg_at hx ha hl
  simp only [k_0_184, k_0_184N, k_0_185, k_0_185N, k_0_186, k_0_187, k_0_188, nI_1, am_cat, am_kill, Value.category, List.map_cons, List.map_nil, List.sum_cons, List.sum_nil, Option.toList_some, Option.toList_none, List.cons_append, List.nil_append, List.length_cons, List.length_nil, List.getD_cons_succ, List.getD_cons_zero, List.set_cons_succ, List.set_cons_zero, Nat.reduceAdd, Nat.reduceLT, Nat.reduceLeDiff, Nat.zero_le, Nat.zero_add, Nat.add_zero]
  rw [k_0_189 o1, o2]
  simp only [k_0_190, C.ov, am_cat, am_kill, Value.category, List.map_cons, List.map_nil, List.sum_cons, List.sum_nil, Option.toList_some, Option.toList_none, List.cons_append, List.nil_append, List.length_cons, List.length_nil, List.getD_cons_succ, List.getD_cons_zero, List.set_cons_succ, List.set_cons_zero, Nat.reduceAdd, Nat.reduceLT, Nat.reduceLeDiff, Nat.zero_le, Nat.zero_add, Nat.add_zero]
  refine co_data C (fun h1 C1 F1 => ?_)
  obtain ⟨P1, S1, hP1, rfl, f⟩ := dec_wr hP F1
  rw [← f 104 (by decide)] at hx
  clear f F1 C
  obtain ⟨o3, o4⟩ := arg_at hx ha hl
  simp only [k_0_193, k_0_193N, k_0_194, k_0_194N, k_0_195, k_0_196, k_0_197, nI_1, am_cat, am_kill, Value.category, List.map_cons, List.map_nil, List.sum_cons, List.sum_nil, Option.toList_some, Option.toList_none, List.cons_append, List.nil_append, List.length_cons, List.length_nil, List.getD_cons_succ, List.getD_cons_zero, List.set_cons_succ, List.set_cons_zero, Nat.reduceAdd, Nat.reduceLT, Nat.reduceLeDiff, Nat.zero_le, Nat.zero_add, Nat.add_zero]
  rw [k_0_198 o3, o4]
  simp only [k_0_199, ovw hP1, am_cat, am_kill, Value.category, List.map_cons, List.map_nil, List.sum_cons, List.sum_nil, Option.toList_some, Option.toList_none, List.cons_append, List.nil_append, List.length_cons, List.length_nil, List.getD_cons_succ, List.getD_cons_zero, List.set_cons_succ, List.set_cons_zero, Nat.reduceAdd, Nat.reduceLT, Nat.reduceLeDiff, Nat.zero_le, Nat.zero_add, Nat.add_zero]
  refine mo_data hP1 M (fun n2 A2 M2 => ?_)
  simp only [k_0_202, if_true, am_cat, am_kill, Value.category, List.map_cons, List.map_nil, List.sum_cons, List.sum_nil, Option.toList_some, Option.toList_none, List.cons_append, List.nil_append, List.length_cons, List.length_nil, List.getD_cons_succ, List.getD_cons_zero, List.set_cons_succ, List.set_cons_zero, Nat.reduceAdd, Nat.reduceLT, Nat.reduceLeDiff, Nat.zero_le, Nat.zero_add, Nat.add_zero]
  exact K _ (Lp.nxt hP1 C1 hx M2 (SI_data I))
theorem lz_clear (H : Lp B xs s k h) (K : ∀ h', Lp B xs (oClear s).1 (k + 1) h' → wp (d + 62) 0 354 [some (.ref 104), some (.ref 105), some (.ref 135), some (.int (nI i))] [] h' Q) : wp (d + 62) 0 207 [some (.ref 104), some (.ref 105), some (.ref 135), some (.int (nI i))] [] h Q := by
  obtain ⟨P, S, n, A, hP, rfl, C, M, I, hx⟩ := H
  simp only [k_0_207, k_0_207N, k_0_208, C.ov, am_cat, am_kill, Value.category, List.map_cons, List.map_nil, List.sum_cons, List.sum_nil, Option.toList_some, Option.toList_none, List.cons_append, List.nil_append, List.length_cons, List.length_nil, List.getD_cons_succ, List.getD_cons_zero, List.set_cons_succ, List.set_cons_zero, Nat.reduceAdd, Nat.reduceLT, Nat.reduceLeDiff, Nat.zero_le, Nat.zero_add, Nat.add_zero]
  refine co_clear C (fun h1 C1 F1 => ?_)
  obtain ⟨P1, S1, hP1, rfl, f⟩ := dec_wr hP F1
  rw [← f 104 (by decide)] at hx
  clear f F1 C
  simp only [k_0_211, k_0_211N, k_0_212, ovw hP1, am_cat, am_kill, Value.category, List.map_cons, List.map_nil, List.sum_cons, List.sum_nil, Option.toList_some, Option.toList_none, List.cons_append, List.nil_append, List.length_cons, List.length_nil, List.getD_cons_succ, List.getD_cons_zero, List.set_cons_succ, List.set_cons_zero, Nat.reduceAdd, Nat.reduceLT, Nat.reduceLeDiff, Nat.zero_le, Nat.zero_add, Nat.add_zero]
  refine mo_clear hP1 M (fun n2 A2 M2 => ?_)
  simp only [k_0_215, if_true, am_cat, am_kill, Value.category, List.map_cons, List.map_nil, List.sum_cons, List.sum_nil, Option.toList_some, Option.toList_none, List.cons_append, List.nil_append, List.length_cons, List.length_nil, List.getD_cons_succ, List.getD_cons_zero, List.set_cons_succ, List.set_cons_zero, Nat.reduceAdd, Nat.reduceLT, Nat.reduceLeDiff, Nat.zero_le, Nat.zero_add, Nat.add_zero]
  exact K _ (Lp.nxt hP1 C1 hx M2 (SI_clear I))
theorem lz_ret (H : Lp B xs s k h) (K : ∀ h', Lp B xs (oRet s).1 (k + 1) h' → wp (d + 62) 0 354 [some (.ref 104), some (.ref 105), some (.ref 135), some (.int (nI i))] [] h' Q) : wp (d + 62) 0 220 [some (.ref 104), some (.ref 105), some (.ref 135), some (.int (nI i))] [] h Q := by
  obtain ⟨P, S, n, A, hP, rfl, C, M, I, hx⟩ := H
  simp only [k_0_220, k_0_220N, k_0_221, C.ov, am_cat, am_kill, Value.category, List.map_cons, List.map_nil, List.sum_cons, List.sum_nil, Option.toList_some, Option.toList_none, List.cons_append, List.nil_append, List.length_cons, List.length_nil, List.getD_cons_succ, List.getD_cons_zero, List.set_cons_succ, List.set_cons_zero, Nat.reduceAdd, Nat.reduceLT, Nat.reduceLeDiff, Nat.zero_le, Nat.zero_add, Nat.add_zero]
  refine co_ret I C (fun h1 C1 F1 => ?_)
  obtain ⟨P1, S1, hP1, rfl, f⟩ := dec_wr hP F1
  rw [← f 104 (by decide)] at hx
  clear f F1 C
  simp only [k_0_224, k_0_224N, k_0_225, ovw hP1, am_cat, am_kill, Value.category, List.map_cons, List.map_nil, List.sum_cons, List.sum_nil, Option.toList_some, Option.toList_none, List.cons_append, List.nil_append, List.length_cons, List.length_nil, List.getD_cons_succ, List.getD_cons_zero, List.set_cons_succ, List.set_cons_zero, Nat.reduceAdd, Nat.reduceLT, Nat.reduceLeDiff, Nat.zero_le, Nat.zero_add, Nat.add_zero]
  refine mo_ret hP1 I M (fun n2 A2 M2 => ?_)
  simp only [k_0_228, if_true, am_cat, am_kill, Value.category, List.map_cons, List.map_nil, List.sum_cons, List.sum_nil, Option.toList_some, Option.toList_none, List.cons_append, List.nil_append, List.length_cons, List.length_nil, List.getD_cons_succ, List.getD_cons_zero, List.set_cons_succ, List.set_cons_zero, Nat.reduceAdd, Nat.reduceLT, Nat.reduceLeDiff, Nat.zero_le, Nat.zero_add, Nat.add_zero]
  exact K _ (Lp.nxt hP1 C1 hx M2 (SI_ret I))
theorem lz_thr (H : Lp B xs s k h) (K : ∀ h', Lp B xs (oThr s).1 (k + 1) h' → wp (d + 62) 0 354 [some (.ref 104), some (.ref 105), some (.ref 135), some (.int (nI i))] [] h' Q) : wp (d + 62) 0 233 [some (.ref 104), some (.ref 105), some (.ref 135), some (.int (nI i))] [] h Q := by
  obtain ⟨P, S, n, A, hP, rfl, C, M, I, hx⟩ := H
  simp only [k_0_233, k_0_233N, k_0_234, C.ov, am_cat, am_kill, Value.category, List.map_cons, List.map_nil, List.sum_cons, List.sum_nil, Option.toList_some, Option.toList_none, List.cons_append, List.nil_append, List.length_cons, List.length_nil, List.getD_cons_succ, List.getD_cons_zero, List.set_cons_succ, List.set_cons_zero, Nat.reduceAdd, Nat.reduceLT, Nat.reduceLeDiff, Nat.zero_le, Nat.zero_add, Nat.add_zero]
  refine co_thr I C (fun h1 C1 F1 => ?_)
  obtain ⟨P1, S1, hP1, rfl, f⟩ := dec_wr hP F1
  rw [← f 104 (by decide)] at hx
  clear f F1 C
  simp only [k_0_237, k_0_237N, k_0_238, ovw hP1, am_cat, am_kill, Value.category, List.map_cons, List.map_nil, List.sum_cons, List.sum_nil, Option.toList_some, Option.toList_none, List.cons_append, List.nil_append, List.length_cons, List.length_nil, List.getD_cons_succ, List.getD_cons_zero, List.set_cons_succ, List.set_cons_zero, Nat.reduceAdd, Nat.reduceLT, Nat.reduceLeDiff, Nat.zero_le, Nat.zero_add, Nat.add_zero]
  refine mo_thr hP1 I M (fun n2 A2 M2 => ?_)
  simp only [k_0_241, if_true, am_cat, am_kill, Value.category, List.map_cons, List.map_nil, List.sum_cons, List.sum_nil, Option.toList_some, Option.toList_none, List.cons_append, List.nil_append, List.length_cons, List.length_nil, List.getD_cons_succ, List.getD_cons_zero, List.set_cons_succ, List.set_cons_zero, Nat.reduceAdd, Nat.reduceLT, Nat.reduceLeDiff, Nat.zero_le, Nat.zero_add, Nat.add_zero]
  exact K _ (Lp.nxt hP1 C1 hx M2 (SI_thr I))
theorem lz_taken (H : Lp B xs s k h) (K : ∀ h', Lp B xs (oTaken s).1 (k + 1) h' → wp (d + 62) 0 354 [some (.ref 104), some (.ref 105), some (.ref 135), some (.int (nI i))] [] h' Q) : wp (d + 62) 0 246 [some (.ref 104), some (.ref 105), some (.ref 135), some (.int (nI i))] [] h Q := by
  obtain ⟨P, S, n, A, hP, rfl, C, M, I, hx⟩ := H
  simp only [k_0_246, k_0_246N, k_0_247, C.ov, am_cat, am_kill, Value.category, List.map_cons, List.map_nil, List.sum_cons, List.sum_nil, Option.toList_some, Option.toList_none, List.cons_append, List.nil_append, List.length_cons, List.length_nil, List.getD_cons_succ, List.getD_cons_zero, List.set_cons_succ, List.set_cons_zero, Nat.reduceAdd, Nat.reduceLT, Nat.reduceLeDiff, Nat.zero_le, Nat.zero_add, Nat.add_zero]
  refine co_taken C (fun h1 C1 F1 => ?_)
  obtain ⟨P1, S1, hP1, rfl, f⟩ := dec_wr hP F1
  rw [← f 104 (by decide)] at hx
  clear f F1 C
  simp only [k_0_250, k_0_250N, k_0_251, ovw hP1, am_cat, am_kill, Value.category, List.map_cons, List.map_nil, List.sum_cons, List.sum_nil, Option.toList_some, Option.toList_none, List.cons_append, List.nil_append, List.length_cons, List.length_nil, List.getD_cons_succ, List.getD_cons_zero, List.set_cons_succ, List.set_cons_zero, Nat.reduceAdd, Nat.reduceLT, Nat.reduceLeDiff, Nat.zero_le, Nat.zero_add, Nat.add_zero]
  refine mo_taken hP1 I M (fun n2 A2 M2 => ?_)
  simp only [k_0_254, if_true, am_cat, am_kill, Value.category, List.map_cons, List.map_nil, List.sum_cons, List.sum_nil, Option.toList_some, Option.toList_none, List.cons_append, List.nil_append, List.length_cons, List.length_nil, List.getD_cons_succ, List.getD_cons_zero, List.set_cons_succ, List.set_cons_zero, Nat.reduceAdd, Nat.reduceLT, Nat.reduceLeDiff, Nat.zero_le, Nat.zero_add, Nat.add_zero]
  exact K _ (Lp.nxt hP1 C1 hx M2 (SI_taken I))
theorem lz_drop (H : Lp B xs s k h) (K : ∀ h', Lp B xs (oDrop s).1 (k + 1) h' → wp (d + 62) 0 354 [some (.ref 104), some (.ref 105), some (.ref 135), some (.int (nI i))] [] h' Q) : wp (d + 62) 0 259 [some (.ref 104), some (.ref 105), some (.ref 135), some (.int (nI i))] [] h Q := by
  obtain ⟨P, S, n, A, hP, rfl, C, M, I, hx⟩ := H
  simp only [k_0_259, k_0_259N, k_0_260, C.ov, am_cat, am_kill, Value.category, List.map_cons, List.map_nil, List.sum_cons, List.sum_nil, Option.toList_some, Option.toList_none, List.cons_append, List.nil_append, List.length_cons, List.length_nil, List.getD_cons_succ, List.getD_cons_zero, List.set_cons_succ, List.set_cons_zero, Nat.reduceAdd, Nat.reduceLT, Nat.reduceLeDiff, Nat.zero_le, Nat.zero_add, Nat.add_zero]
  refine co_drop C (fun h1 C1 F1 => ?_)
  obtain ⟨P1, S1, hP1, rfl, f⟩ := dec_wr hP F1
  rw [← f 104 (by decide)] at hx
  clear f F1 C
  simp only [k_0_263, k_0_263N, k_0_264, ovw hP1, am_cat, am_kill, Value.category, List.map_cons, List.map_nil, List.sum_cons, List.sum_nil, Option.toList_some, Option.toList_none, List.cons_append, List.nil_append, List.length_cons, List.length_nil, List.getD_cons_succ, List.getD_cons_zero, List.set_cons_succ, List.set_cons_zero, Nat.reduceAdd, Nat.reduceLT, Nat.reduceLeDiff, Nat.zero_le, Nat.zero_add, Nat.add_zero]
  refine mo_drop hP1 M (fun n2 A2 M2 => ?_)
  simp only [k_0_267, if_true, am_cat, am_kill, Value.category, List.map_cons, List.map_nil, List.sum_cons, List.sum_nil, Option.toList_some, Option.toList_none, List.cons_append, List.nil_append, List.length_cons, List.length_nil, List.getD_cons_succ, List.getD_cons_zero, List.set_cons_succ, List.set_cons_zero, Nat.reduceAdd, Nat.reduceLT, Nat.reduceLeDiff, Nat.zero_le, Nat.zero_add, Nat.add_zero]
  exact K _ (Lp.nxt hP1 C1 hx M2 (SI_drop I))
theorem lz_emit (H : Lp B xs s k h) (K : ∀ h', Lp B xs (oEmit s).1 (k + 1) h' → wp (d + 62) 0 354 [some (.ref 104), some (.ref 105), some (.ref 135), some (.int (nI i))] [] h' Q) : wp (d + 62) 0 272 [some (.ref 104), some (.ref 105), some (.ref 135), some (.int (nI i))] [] h Q := by
  obtain ⟨P, S, n, A, hP, rfl, C, M, I, hx⟩ := H
  simp only [k_0_272, k_0_272N, k_0_273, C.ov, am_cat, am_kill, Value.category, List.map_cons, List.map_nil, List.sum_cons, List.sum_nil, Option.toList_some, Option.toList_none, List.cons_append, List.nil_append, List.length_cons, List.length_nil, List.getD_cons_succ, List.getD_cons_zero, List.set_cons_succ, List.set_cons_zero, Nat.reduceAdd, Nat.reduceLT, Nat.reduceLeDiff, Nat.zero_le, Nat.zero_add, Nat.add_zero]
  refine co_emit I C (fun h1 C1 F1 => ?_)
  obtain ⟨P1, S1, hP1, rfl, f⟩ := dec_wr hP F1
  rw [← f 104 (by decide)] at hx
  clear f F1 C
  simp only [k_0_276, k_0_276N, k_0_277, ovw hP1, am_cat, am_kill, Value.category, List.map_cons, List.map_nil, List.sum_cons, List.sum_nil, Option.toList_some, Option.toList_none, List.cons_append, List.nil_append, List.length_cons, List.length_nil, List.getD_cons_succ, List.getD_cons_zero, List.set_cons_succ, List.set_cons_zero, Nat.reduceAdd, Nat.reduceLT, Nat.reduceLeDiff, Nat.zero_le, Nat.zero_add, Nat.add_zero]
  refine mo_emit hP1 I M (fun n2 A2 M2 => ?_)
  simp only [k_0_280, if_true, am_cat, am_kill, Value.category, List.map_cons, List.map_nil, List.sum_cons, List.sum_nil, Option.toList_some, Option.toList_none, List.cons_append, List.nil_append, List.length_cons, List.length_nil, List.getD_cons_succ, List.getD_cons_zero, List.set_cons_succ, List.set_cons_zero, Nat.reduceAdd, Nat.reduceLT, Nat.reduceLeDiff, Nat.zero_le, Nat.zero_add, Nat.add_zero]
  exact K _ (Lp.nxt hP1 C1 hx M2 (SI_emit I))
theorem lz_at (H : Lp B xs s k h) (ha : xs[i + 1]? = some x) (hl : i + 1 < 2 ^ 31) (K : ∀ h', Lp B xs (oAt x s).1 (k + 1) h' → wp (d + 62) 0 354 [some (.ref 104), some (.ref 105), some (.ref 135), some (.int (nI i))] [] h' Q) : wp (d + 62) 0 285 [some (.ref 104), some (.ref 105), some (.ref 135), some (.int (nI i))] [] h Q := by
  obtain ⟨P, S, n, A, hP, rfl, C, M, I, hx⟩ := H
  obtain ⟨o1, o2⟩ := arg_at hx ha hl
  simp only [k_0_285, k_0_285N, k_0_286, k_0_286N, k_0_287, k_0_288, k_0_289, nI_1, am_cat, am_kill, Value.category, List.map_cons, List.map_nil, List.sum_cons, List.sum_nil, Option.toList_some, Option.toList_none, List.cons_append, List.nil_append, List.length_cons, List.length_nil, List.getD_cons_succ, List.getD_cons_zero, List.set_cons_succ, List.set_cons_zero, Nat.reduceAdd, Nat.reduceLT, Nat.reduceLeDiff, Nat.zero_le, Nat.zero_add, Nat.add_zero]
  rw [k_0_290 o1, o2]
  simp only [k_0_291, C.ov, am_cat, am_kill, Value.category, List.map_cons, List.map_nil, List.sum_cons, List.sum_nil, Option.toList_some, Option.toList_none, List.cons_append, List.nil_append, List.length_cons, List.length_nil, List.getD_cons_succ, List.getD_cons_zero, List.set_cons_succ, List.set_cons_zero, Nat.reduceAdd, Nat.reduceLT, Nat.reduceLeDiff, Nat.zero_le, Nat.zero_add, Nat.add_zero]
  refine co_at C (fun h1 C1 F1 => ?_)
  obtain ⟨P1, S1, hP1, rfl, f⟩ := dec_wr hP F1
  rw [← f 104 (by decide)] at hx
  clear f F1 C
  obtain ⟨o3, o4⟩ := arg_at hx ha hl
  simp only [k_0_294, k_0_294N, k_0_295, k_0_295N, k_0_296, k_0_297, k_0_298, nI_1, am_cat, am_kill, Value.category, List.map_cons, List.map_nil, List.sum_cons, List.sum_nil, Option.toList_some, Option.toList_none, List.cons_append, List.nil_append, List.length_cons, List.length_nil, List.getD_cons_succ, List.getD_cons_zero, List.set_cons_succ, List.set_cons_zero, Nat.reduceAdd, Nat.reduceLT, Nat.reduceLeDiff, Nat.zero_le, Nat.zero_add, Nat.add_zero]
  rw [k_0_299 o3, o4]
  simp only [k_0_300, ovw hP1, am_cat, am_kill, Value.category, List.map_cons, List.map_nil, List.sum_cons, List.sum_nil, Option.toList_some, Option.toList_none, List.cons_append, List.nil_append, List.length_cons, List.length_nil, List.getD_cons_succ, List.getD_cons_zero, List.set_cons_succ, List.set_cons_zero, Nat.reduceAdd, Nat.reduceLT, Nat.reduceLeDiff, Nat.zero_le, Nat.zero_add, Nat.add_zero]
  refine mo_at hP1 I M (fun n2 A2 M2 => ?_)
  simp only [k_0_303, if_true, am_cat, am_kill, Value.category, List.map_cons, List.map_nil, List.sum_cons, List.sum_nil, Option.toList_some, Option.toList_none, List.cons_append, List.nil_append, List.length_cons, List.length_nil, List.getD_cons_succ, List.getD_cons_zero, List.set_cons_succ, List.set_cons_zero, Nat.reduceAdd, Nat.reduceLT, Nat.reduceLeDiff, Nat.zero_le, Nat.zero_add, Nat.add_zero]
  exact K _ (Lp.nxt hP1 C1 hx M2 (SI_at I))
theorem lz_line (H : Lp B xs s k h) (ha : xs[i + 1]? = some x) (hl : i + 1 < 2 ^ 31) (K : ∀ h', Lp B xs (oLine x s).1 (k + 1) h' → wp (d + 62) 0 354 [some (.ref 104), some (.ref 105), some (.ref 135), some (.int (nI i))] [] h' Q) : wp (d + 62) 0 308 [some (.ref 104), some (.ref 105), some (.ref 135), some (.int (nI i))] [] h Q := by
  obtain ⟨P, S, n, A, hP, rfl, C, M, I, hx⟩ := H
  obtain ⟨o1, o2⟩ := arg_at hx ha hl
  simp only [k_0_308, k_0_308N, k_0_309, k_0_309N, k_0_310, k_0_311, k_0_312, nI_1, am_cat, am_kill, Value.category, List.map_cons, List.map_nil, List.sum_cons, List.sum_nil, Option.toList_some, Option.toList_none, List.cons_append, List.nil_append, List.length_cons, List.length_nil, List.getD_cons_succ, List.getD_cons_zero, List.set_cons_succ, List.set_cons_zero, Nat.reduceAdd, Nat.reduceLT, Nat.reduceLeDiff, Nat.zero_le, Nat.zero_add, Nat.add_zero]
  rw [k_0_313 o1, o2]
  simp only [k_0_314, C.ov, am_cat, am_kill, Value.category, List.map_cons, List.map_nil, List.sum_cons, List.sum_nil, Option.toList_some, Option.toList_none, List.cons_append, List.nil_append, List.length_cons, List.length_nil, List.getD_cons_succ, List.getD_cons_zero, List.set_cons_succ, List.set_cons_zero, Nat.reduceAdd, Nat.reduceLT, Nat.reduceLeDiff, Nat.zero_le, Nat.zero_add, Nat.add_zero]
  refine co_line I C (fun h1 C1 F1 => ?_)
  obtain ⟨P1, S1, hP1, rfl, f⟩ := dec_wr hP F1
  rw [← f 104 (by decide)] at hx
  clear f F1 C
  obtain ⟨o3, o4⟩ := arg_at hx ha hl
  simp only [k_0_317, k_0_317N, k_0_318, k_0_318N, k_0_319, k_0_320, k_0_321, nI_1, am_cat, am_kill, Value.category, List.map_cons, List.map_nil, List.sum_cons, List.sum_nil, Option.toList_some, Option.toList_none, List.cons_append, List.nil_append, List.length_cons, List.length_nil, List.getD_cons_succ, List.getD_cons_zero, List.set_cons_succ, List.set_cons_zero, Nat.reduceAdd, Nat.reduceLT, Nat.reduceLeDiff, Nat.zero_le, Nat.zero_add, Nat.add_zero]
  rw [k_0_322 o3, o4]
  simp only [k_0_323, ovw hP1, am_cat, am_kill, Value.category, List.map_cons, List.map_nil, List.sum_cons, List.sum_nil, Option.toList_some, Option.toList_none, List.cons_append, List.nil_append, List.length_cons, List.length_nil, List.getD_cons_succ, List.getD_cons_zero, List.set_cons_succ, List.set_cons_zero, Nat.reduceAdd, Nat.reduceLT, Nat.reduceLeDiff, Nat.zero_le, Nat.zero_add, Nat.add_zero]
  refine mo_line hP1 I M (fun n2 A2 M2 => ?_)
  simp only [k_0_326, if_true, am_cat, am_kill, Value.category, List.map_cons, List.map_nil, List.sum_cons, List.sum_nil, Option.toList_some, Option.toList_none, List.cons_append, List.nil_append, List.length_cons, List.length_nil, List.getD_cons_succ, List.getD_cons_zero, List.set_cons_succ, List.set_cons_zero, Nat.reduceAdd, Nat.reduceLT, Nat.reduceLeDiff, Nat.zero_le, Nat.zero_add, Nat.add_zero]
  exact K _ (Lp.nxt hP1 C1 hx M2 (SI_line I))
theorem lz_count (H : Lp B xs s k h) (ha : xs[i + 1]? = some x) (hl : i + 1 < 2 ^ 31) (K : ∀ h', Lp B xs (oCount x s).1 (k + 1) h' → wp (d + 62) 0 354 [some (.ref 104), some (.ref 105), some (.ref 135), some (.int (nI i))] [] h' Q) : wp (d + 62) 0 331 [some (.ref 104), some (.ref 105), some (.ref 135), some (.int (nI i))] [] h Q := by
  obtain ⟨P, S, n, A, hP, rfl, C, M, I, hx⟩ := H
  obtain ⟨o1, o2⟩ := arg_at hx ha hl
  simp only [k_0_331, k_0_331N, k_0_332, k_0_332N, k_0_333, k_0_334, k_0_335, nI_1, am_cat, am_kill, Value.category, List.map_cons, List.map_nil, List.sum_cons, List.sum_nil, Option.toList_some, Option.toList_none, List.cons_append, List.nil_append, List.length_cons, List.length_nil, List.getD_cons_succ, List.getD_cons_zero, List.set_cons_succ, List.set_cons_zero, Nat.reduceAdd, Nat.reduceLT, Nat.reduceLeDiff, Nat.zero_le, Nat.zero_add, Nat.add_zero]
  rw [k_0_336 o1, o2]
  simp only [k_0_337, C.ov, am_cat, am_kill, Value.category, List.map_cons, List.map_nil, List.sum_cons, List.sum_nil, Option.toList_some, Option.toList_none, List.cons_append, List.nil_append, List.length_cons, List.length_nil, List.getD_cons_succ, List.getD_cons_zero, List.set_cons_succ, List.set_cons_zero, Nat.reduceAdd, Nat.reduceLT, Nat.reduceLeDiff, Nat.zero_le, Nat.zero_add, Nat.add_zero]
  refine co_count C (fun h1 C1 F1 => ?_)
  obtain ⟨P1, S1, hP1, rfl, f⟩ := dec_wr hP F1
  rw [← f 104 (by decide)] at hx
  clear f F1 C
  obtain ⟨o3, o4⟩ := arg_at hx ha hl
  simp only [k_0_340, k_0_340N, k_0_341, k_0_341N, k_0_342, k_0_343, k_0_344, nI_1, am_cat, am_kill, Value.category, List.map_cons, List.map_nil, List.sum_cons, List.sum_nil, Option.toList_some, Option.toList_none, List.cons_append, List.nil_append, List.length_cons, List.length_nil, List.getD_cons_succ, List.getD_cons_zero, List.set_cons_succ, List.set_cons_zero, Nat.reduceAdd, Nat.reduceLT, Nat.reduceLeDiff, Nat.zero_le, Nat.zero_add, Nat.add_zero]
  rw [k_0_345 o3, o4]
  simp only [k_0_346, ovw hP1, am_cat, am_kill, Value.category, List.map_cons, List.map_nil, List.sum_cons, List.sum_nil, Option.toList_some, Option.toList_none, List.cons_append, List.nil_append, List.length_cons, List.length_nil, List.getD_cons_succ, List.getD_cons_zero, List.set_cons_succ, List.set_cons_zero, Nat.reduceAdd, Nat.reduceLT, Nat.reduceLeDiff, Nat.zero_le, Nat.zero_add, Nat.add_zero]
  refine mo_count hP1 I M (fun n2 A2 M2 => ?_)
  simp only [k_0_349, if_true, am_cat, am_kill, Value.category, List.map_cons, List.map_nil, List.sum_cons, List.sum_nil, Option.toList_some, Option.toList_none, List.cons_append, List.nil_append, List.length_cons, List.length_nil, List.getD_cons_succ, List.getD_cons_zero, List.set_cons_succ, List.set_cons_zero, Nat.reduceAdd, Nat.reduceLT, Nat.reduceLeDiff, Nat.zero_le, Nat.zero_add, Nat.add_zero]
  exact K _ (Lp.nxt hP1 C1 hx M2 (SI_count I))
theorem lz_end {len : Nat} (hl : len < 2 ^ 31) (hi : i < 2 ^ 31) : (nI len - 2 < nI i) ↔ len < i + 2 := by
  by_cases c : 2 ≤ len
  · rw [show (2 : Int32) = nI 2 from rfl, nI_sub2 c, nI_ltI (by omega) hi]
    omega
  · have h0 := nI_pos hi
    refine ⟨fun _ => by omega, fun _ => ?_⟩
    have h1 : nI len - 2 < 0 := by
      rcases (show len = 0 ∨ len = 1 by omega) with rfl | rfl <;> decide
    exact Int32.lt_of_lt_of_le h1 (Int32.not_lt.mp h0)
theorem lz_loop (hxl : xs.length ≤ 1025) (hB : B ≤ am_sz (h0 xs) + 10815) : ∀ (m k : Nat) (s : St) (h : AH), k + m = 512 → Lp B xs s k h → wp (d + 62) 0 28 [some (.ref 104), some (.ref 105), some (.ref 135), some (.int (nI (1 + 2 * k)))] [] h (fun r h' => r = some (.int 1) ∧ h'.length ≤ sN + 600000 ∧ am_sz h' ≤ am_sz (h0 xs) + 7302250) := by
  have hN := sN5
  intro m
  induction m with
  | zero =>
    intro k s h hk H
    obtain ⟨P, S, n, A, hP, rfl, C, M, I, hx⟩ := id H
    have e1 : nI (xs.map Value.int).length - 2 < nI (1 + 2 * k) := (lz_end (by rw [List.length_map]; omega) (by omega)).mpr (by rw [List.length_map]; omega)
    have e2 : nI (xs.map Value.int).length = Int32.ofNat (xs.map Value.int).length := rfl
    rw [e2] at e1
    have := C.bd
    simp only [k_0_28, k_0_29, k_0_29N, k_0_30, k_0_31, k_0_32, k_0_33, isA_iff hx, alen_of hx, e1, if_true, am_cat, am_kill, Value.category, List.map_cons, List.map_nil, List.sum_cons, List.sum_nil, Option.toList_some, Option.toList_none, List.cons_append, List.nil_append, List.length_cons, List.length_nil, List.getD_cons_succ, List.getD_cons_zero, List.set_cons_succ, List.set_cons_zero, Nat.reduceAdd, Nat.reduceLT, Nat.reduceLeDiff, Nat.zero_le, Nat.zero_add, Nat.add_zero]
    simp only [k_0_360, k_0_361, nb1, fb1, am_cat, am_kill, Value.category, List.map_cons, List.map_nil, List.sum_cons, List.sum_nil, Option.toList_some, Option.toList_none, List.cons_append, List.nil_append, List.length_cons, List.length_nil, List.getD_cons_succ, List.getD_cons_zero, List.set_cons_succ, List.set_cons_zero, Nat.reduceAdd, Nat.reduceLT, Nat.reduceLeDiff, Nat.zero_le, Nat.zero_add, Nat.add_zero]
    exact ⟨trivial, by omega, by omega⟩
  | succ m ih =>
    intro k s h hk H
    obtain ⟨P, S, n, A, hP, rfl, C, M, I, hx⟩ := id H
    have e0 : (nI (xs.map Value.int).length - 2 < nI (1 + 2 * k)) ↔ xs.length < 1 + 2 * k + 2 := by
      rw [lz_end (by rw [List.length_map]; omega) (by omega), List.length_map]
    have e2 : nI (xs.map Value.int).length = Int32.ofNat (xs.map Value.int).length := rfl
    rw [e2] at e0
    by_cases c0 : xs.length < 1 + 2 * k + 2
    · have e1 := e0.mpr c0
      have := C.bd
      simp only [k_0_28, k_0_29, k_0_29N, k_0_30, k_0_31, k_0_32, k_0_33, isA_iff hx, alen_of hx, e1, if_true, am_cat, am_kill, Value.category, List.map_cons, List.map_nil, List.sum_cons, List.sum_nil, Option.toList_some, Option.toList_none, List.cons_append, List.nil_append, List.length_cons, List.length_nil, List.getD_cons_succ, List.getD_cons_zero, List.set_cons_succ, List.set_cons_zero, Nat.reduceAdd, Nat.reduceLT, Nat.reduceLeDiff, Nat.zero_le, Nat.zero_add, Nat.add_zero]
      simp only [k_0_360, k_0_361, nb1, fb1, am_cat, am_kill, Value.category, List.map_cons, List.map_nil, List.sum_cons, List.sum_nil, Option.toList_some, Option.toList_none, List.cons_append, List.nil_append, List.length_cons, List.length_nil, List.getD_cons_succ, List.getD_cons_zero, List.set_cons_succ, List.set_cons_zero, Nat.reduceAdd, Nat.reduceLT, Nat.reduceLeDiff, Nat.zero_le, Nat.zero_add, Nat.add_zero]
      exact ⟨trivial, by omega, by omega⟩
    · have e1 : ¬ _ := fun z => c0 (e0.mp z)
      have g1 : xs[1 + 2 * k]? = some xs[1 + 2 * k] := List.getElem?_eq_getElem (by omega)
      have g2 : xs[1 + 2 * k + 1]? = some xs[1 + 2 * k + 1] := List.getElem?_eq_getElem (by omega)
      obtain ⟨o1, o2⟩ := arg_at hx g1 (by omega)
      simp only [k_0_28, k_0_29, k_0_29N, k_0_30, k_0_31, k_0_32, k_0_33, isA_iff hx, alen_of hx, e1, if_false, am_cat, am_kill, Value.category, List.map_cons, List.map_nil, List.sum_cons, List.sum_nil, Option.toList_some, Option.toList_none, List.cons_append, List.nil_append, List.length_cons, List.length_nil, List.getD_cons_succ, List.getD_cons_zero, List.set_cons_succ, List.set_cons_zero, Nat.reduceAdd, Nat.reduceLT, Nat.reduceLeDiff, Nat.zero_le, Nat.zero_add, Nat.add_zero]
      simp only [k_0_36, k_0_36N, k_0_37, am_cat, am_kill, Value.category, List.map_cons, List.map_nil, List.sum_cons, List.sum_nil, Option.toList_some, Option.toList_none, List.cons_append, List.nil_append, List.length_cons, List.length_nil, List.getD_cons_succ, List.getD_cons_zero, List.set_cons_succ, List.set_cons_zero, Nat.reduceAdd, Nat.reduceLT, Nat.reduceLeDiff, Nat.zero_le, Nat.zero_add, Nat.add_zero]
      rw [k_0_38 o1, o2]
      simp only [k_0_39, k_0_41, am_cat, am_kill, Value.category, List.map_cons, List.map_nil, List.sum_cons, List.sum_nil, Option.toList_some, Option.toList_none, List.cons_append, List.nil_append, List.length_cons, List.length_nil, List.getD_cons_succ, List.getD_cons_zero, List.set_cons_succ, List.set_cons_zero, Nat.reduceAdd, Nat.reduceLT, Nat.reduceLeDiff, Nat.zero_le, Nat.zero_add, Nat.add_zero]
      have nx : ∀ (s' : St) (h' : AH), Lp B xs s' (k + 1) h' → wp (d + 62) 0 354 [some (.ref 104), some (.ref 105), some (.ref 135), some (.int (nI (1 + 2 * k)))] [] h' (fun r h' => r = some (.int 1) ∧ h'.length ≤ sN + 600000 ∧ am_sz h' ≤ am_sz (h0 xs) + 7302250) := by
        intro s' h' H'
        have e3 : nI (1 + 2 * k) + 2 = nI (1 + 2 * (k + 1)) := by
          rw [show (2 : Int32) = nI 2 from rfl, nI_add]
          congr 1
        simp only [k_0_354, k_0_357, am_kill, e3, am_cat, am_kill, Value.category, List.map_cons, List.map_nil, List.sum_cons, List.sum_nil, Option.toList_some, Option.toList_none, List.cons_append, List.nil_append, List.length_cons, List.length_nil, List.getD_cons_succ, List.getD_cons_zero, List.set_cons_succ, List.set_cons_zero, Nat.reduceAdd, Nat.reduceLT, Nat.reduceLeDiff, Nat.zero_le, Nat.zero_add, Nat.add_zero]
        exact ih (k + 1) s' h' (by omega) H'
      clear e1 e0 e2 o1 o2
      generalize xs[1 + 2 * k] &&& 15 = op
      simp only [k_0_42]
      by_cases c0 : op = 0
      · rw [if_pos c0]
        exact lz_type H g2 (by omega) (fun h' H' => nx _ h' H')
      rw [if_neg c0]
      by_cases c1 : op = 1
      · rw [if_pos c1]
        exact lz_fields H g2 (by omega) (fun h' H' => nx _ h' H')
      rw [if_neg c1]
      by_cases c2 : op = 2
      · rw [if_pos c2]
        exact lz_parameters H (fun h' H' => nx _ h' H')
      rw [if_neg c2]
      by_cases c3 : op = 3
      · rw [if_pos c3]
        exact lz_res H (fun h' H' => nx _ h' H')
      rw [if_neg c3]
      by_cases c4 : op = 4
      · rw [if_pos c4]
        exact lz_data H g2 (by omega) (fun h' H' => nx _ h' H')
      rw [if_neg c4]
      by_cases c5 : op = 5
      · rw [if_pos c5]
        exact lz_clear H (fun h' H' => nx _ h' H')
      rw [if_neg c5]
      by_cases c6 : op = 6
      · rw [if_pos c6]
        exact lz_ret H (fun h' H' => nx _ h' H')
      rw [if_neg c6]
      by_cases c7 : op = 7
      · rw [if_pos c7]
        exact lz_thr H (fun h' H' => nx _ h' H')
      rw [if_neg c7]
      by_cases c8 : op = 8
      · rw [if_pos c8]
        exact lz_taken H (fun h' H' => nx _ h' H')
      rw [if_neg c8]
      by_cases c9 : op = 9
      · rw [if_pos c9]
        exact lz_drop H (fun h' H' => nx _ h' H')
      rw [if_neg c9]
      by_cases c10 : op = 10
      · rw [if_pos c10]
        exact lz_emit H (fun h' H' => nx _ h' H')
      rw [if_neg c10]
      by_cases c11 : op = 11
      · rw [if_pos c11]
        exact lz_at H g2 (by omega) (fun h' H' => nx _ h' H')
      rw [if_neg c11]
      by_cases c12 : op = 12
      · rw [if_pos c12]
        exact lz_line H g2 (by omega) (fun h' H' => nx _ h' H')
      rw [if_neg c12]
      by_cases c13 : op = 13
      · rw [if_pos c13]
        exact lz_count H g2 (by omega) (fun h' H' => nx _ h' H')
      rw [if_neg c13]
      exact nx s _ ⟨P, S, n, A, hP, rfl, C.up (Nat.le_succ k), M, I, hx⟩
end LW
