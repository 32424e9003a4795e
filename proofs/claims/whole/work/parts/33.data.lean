/-! DATA -/
def Dat (h : AH) (a ir : Nat) (D : List Int32) (u : Nat) (vs : List Value) : Prop := h[a]? = some (.inr 5, [.ref ir, .int (nI D.length), .int (nI u)]) ∧ h[ir]? = some (.inl .int, vs) ∧ vs.length = 60 ∧ (∀ (j : Nat) (c : Int32), D[j]? = some c → vs[j]? = some (.int c)) ∧ D.length ≤ 60 ∧ u ≤ D.length ∧ sN ≤ a ∧ sN ≤ ir
theorem set_self {h : AH} {a : Nat} {x : AC} (ha : h[a]? = some x) : h.set a x = h := by
  apply List.ext_getElem?
  intro j
  rw [List.getElem?_set]
  by_cases hj : a = j
  · subst hj
    rw [if_pos rfl, if_pos (lt_of_get ha), ha]
  · rw [if_neg hj]
theorem sp_usedUp {d : Nat} {h : AH} {a ir u : Nat} {D : List Int32} {vs : List Value} {Q : Option Value → AH → Prop} (H : Dat h a ir D u vs) : wp d 40 0 [some (.ref a)] [] h Q ↔ Q (some (.int (if u < D.length then 0 else 1))) h := by
  obtain ⟨h1, h2, h3, h4, h5, h6, h7, h8⟩ := id H
  simp only [k_40_0, k_40_0N, k_40_4, k_40_4N, k_40_8, k_40_11, k_40_12, k_40_15, k_40_16, k_40_1, k_40_5, okG_iff h1, fld_of h1, nb0, nb1, fb0, fb1, nI_ltI (show u < 2 ^ 31 by omega) (show D.length < 2 ^ 31 by omega), am_cat, am_kill, Value.category, List.map_cons, List.map_nil, List.sum_cons, List.sum_nil, Option.toList_some, Option.toList_none, List.cons_append, List.nil_append, List.length_cons, List.length_nil, List.getD_cons_succ, List.getD_cons_zero, List.set_cons_succ, List.set_cons_zero, Nat.reduceAdd, Nat.reduceLT, Nat.reduceLeDiff, Nat.zero_le, Nat.zero_add, Nat.add_zero]
  by_cases hu : u < D.length <;> simp only [hu, if_true, if_false]
theorem sp_next {d : Nat} {h : AH} {a ir u : Nat} {D : List Int32} {vs : List Value} {Q : Option Value → AH → Prop} (H : Dat h a ir D u vs) : wp (d + 1) 43 0 [some (.ref a)] [] h Q ↔ Q (some (.int (D.getD u 0))) (h.set a (.inr 5, [.ref ir, .int (nI D.length), .int (nI (min (u + 1) D.length))])) := by
  obtain ⟨h1, h2, h3, h4, h5, h6, h7, h8⟩ := id H
  have e1 : (1 : Int32) = 0 ↔ False := by decide
  simp only [k_43_0, k_43_0N, k_43_1, okV_iff h1, sp_usedUp H, am_cat, am_kill, Value.category, List.map_cons, List.map_nil, List.sum_cons, List.sum_nil, Option.toList_some, Option.toList_none, List.cons_append, List.nil_append, List.length_cons, List.length_nil, List.getD_cons_succ, List.getD_cons_zero, List.set_cons_succ, List.set_cons_zero, Nat.reduceAdd, Nat.reduceLT, Nat.reduceLeDiff, Nat.zero_le, Nat.zero_add, Nat.add_zero]
  by_cases hu : u < D.length
  · have hne : ir ≠ a := fun e => by rw [e, h1] at h2; cases h2
    have k1 : (h.set a (.inr 5, [.ref ir, .int (nI D.length), .int (nI (u + 1))]))[a]? = some (.inr 5, [.ref ir, .int (nI D.length), .int (nI (u + 1))]) := get_set_eq h1
    have k2 : (h.set a (.inr 5, [.ref ir, .int (nI D.length), .int (nI (u + 1))]))[ir]? = some (.inl .int, vs) := by rw [get_set_ne hne.symm]; exact h2
    have k3 : nI (u + 1) - 1 = nI u := nI_pred u
    have k4 : okA am_isI (h.set a (.inr 5, [.ref ir, .int (nI D.length), .int (nI (u + 1))])) ir (nI u) := ⟨.int, vs, k2, rfl, nI_pos (by omega), by rw [nI_clamp (by omega)]; omega⟩
    have k5 : vs.getD u .null = .int D[u] := by rw [List.getD_eq_getElem?_getD, h4 u D[u] (by simp [hu])]; rfl
    simp only [hu, if_true, k_43_4, k_43_9, k_43_9N, k_43_10, k_43_10i, k_43_14, k_43_15, k_43_11, k_43_16, okG_iff h1, fld_of h1, hput_of h1, h7, nI_1, am_cat, am_kill, Value.category, List.map_cons, List.map_nil, List.sum_cons, List.sum_nil, Option.toList_some, Option.toList_none, List.cons_append, List.nil_append, List.length_cons, List.length_nil, List.getD_cons_succ, List.getD_cons_zero, List.set_cons_succ, List.set_cons_zero, Nat.reduceAdd, Nat.reduceLT, Nat.reduceLeDiff, Nat.zero_le, Nat.zero_add, Nat.add_zero]
    simp only [k_43_19, k_43_19N, k_43_23, k_43_23N, k_43_27, k_43_28, k_43_20, k_43_24, okG_iff k1, fld_of k1, k3, am_cat, am_kill, Value.category, List.map_cons, List.map_nil, List.sum_cons, List.sum_nil, Option.toList_some, Option.toList_none, List.cons_append, List.nil_append, List.length_cons, List.length_nil, List.getD_cons_succ, List.getD_cons_zero, List.set_cons_succ, List.set_cons_zero, Nat.reduceAdd, Nat.reduceLT, Nat.reduceLeDiff, Nat.zero_le, Nat.zero_add, Nat.add_zero]
    rw [k_43_29 k4, arr_of k2, nI_clamp (by omega), k5, k_43_30, Nat.min_eq_left (by omega), List.getD_eq_getElem?_getD, List.getElem?_eq_getElem hu]
    rfl
  · simp only [hu, if_false, e1, k_43_4, k_43_7, k_43_8, am_cat, am_kill, Value.category, List.map_cons, List.map_nil, List.sum_cons, List.sum_nil, Option.toList_some, Option.toList_none, List.cons_append, List.nil_append, List.length_cons, List.length_nil, List.getD_cons_succ, List.getD_cons_zero, List.set_cons_succ, List.set_cons_zero, Nat.reduceAdd, Nat.reduceLT, Nat.reduceLeDiff, Nat.zero_le, Nat.zero_add, Nat.add_zero]
    rw [List.getD_eq_getElem?_getD, List.getElem?_eq_none (by omega), Nat.min_eq_right (by omega), show D.length = u by omega, set_self (by rw [← show D.length = u by omega] at h1 ⊢; exact h1)]
    rfl
theorem sp_rewind {d : Nat} {h : AH} {a ir u : Nat} {D : List Int32} {vs : List Value} {Q : Option Value → AH → Prop} (H : Dat h a ir D u vs) : wp d 34 0 [some (.ref a)] [] h Q ↔ Q none (h.set a (.inr 5, [.ref ir, .int (nI D.length), .int (nI 0)])) := by
  obtain ⟨h1, h2, h3, h4, h5, h6, h7, h8⟩ := id H
  simp only [k_34_0, k_34_0N, k_34_1, k_34_5, k_34_2, okG_iff h1, hput_of h1, h7, am_cat, am_kill, Value.category, List.map_cons, List.map_nil, List.sum_cons, List.sum_nil, Option.toList_some, Option.toList_none, List.cons_append, List.nil_append, List.length_cons, List.length_nil, List.getD_cons_succ, List.getD_cons_zero, List.set_cons_succ, List.set_cons_zero, Nat.reduceAdd, Nat.reduceLT, Nat.reduceLeDiff, Nat.zero_le, Nat.zero_add, Nat.add_zero]
  rfl
theorem sp_dempty {d : Nat} {h : AH} {a ir u : Nat} {D : List Int32} {vs : List Value} {Q : Option Value → AH → Prop} (H : Dat h a ir D u vs) : wp d 30 0 [some (.ref a)] [] h Q ↔ Q none (h.set a (.inr 5, [.ref ir, .int (nI 0), .int (nI 0)])) := by
  obtain ⟨h1, h2, h3, h4, h5, h6, h7, h8⟩ := id H
  have k1 : (h.set a (.inr 5, [.ref ir, .int 0, .int (nI u)]))[a]? = some (.inr 5, [.ref ir, .int 0, .int (nI u)]) := get_set_eq h1
  simp only [k_30_0, k_30_0N, k_30_1, k_30_2, okG_iff h1, hput_of h1, h7, am_cat, am_kill, Value.category, List.map_cons, List.map_nil, List.sum_cons, List.sum_nil, Option.toList_some, Option.toList_none, List.cons_append, List.nil_append, List.length_cons, List.length_nil, List.getD_cons_succ, List.getD_cons_zero, List.set_cons_succ, List.set_cons_zero, Nat.reduceAdd, Nat.reduceLT, Nat.reduceLeDiff, Nat.zero_le, Nat.zero_add, Nat.add_zero]
  simp only [k_30_5, k_30_5N, k_30_6, k_30_10, k_30_7, okG_iff k1, hput_of k1, h7, List.set_set, am_cat, am_kill, Value.category, List.map_cons, List.map_nil, List.sum_cons, List.sum_nil, Option.toList_some, Option.toList_none, List.cons_append, List.nil_append, List.length_cons, List.length_nil, List.getD_cons_succ, List.getD_cons_zero, List.set_cons_succ, List.set_cons_zero, Nat.reduceAdd, Nat.reduceLT, Nat.reduceLeDiff, Nat.zero_le, Nat.zero_add, Nat.add_zero]
  rfl
theorem sp_dsize {d : Nat} {h : AH} {a ir u : Nat} {D : List Int32} {vs : List Value} {Q : Option Value → AH → Prop} (H : Dat h a ir D u vs) : wp d 28 0 [some (.ref a)] [] h Q ↔ Q (some (.int (nI D.length))) h := by
  obtain ⟨h1, -⟩ := id H
  simp only [k_28_0, k_28_0N, k_28_4, k_28_1, okG_iff h1, fld_of h1, am_cat, am_kill, Value.category, List.map_cons, List.map_nil, List.sum_cons, List.sum_nil, Option.toList_some, Option.toList_none, List.cons_append, List.nil_append, List.length_cons, List.length_nil, List.getD_cons_succ, List.getD_cons_zero, List.set_cons_succ, List.set_cons_zero, Nat.reduceAdd, Nat.reduceLT, Nat.reduceLeDiff, Nat.zero_le, Nat.zero_add, Nat.add_zero]
theorem sp_dused {d : Nat} {h : AH} {a ir u : Nat} {D : List Int32} {vs : List Value} {Q : Option Value → AH → Prop} (H : Dat h a ir D u vs) : wp d 57 0 [some (.ref a)] [] h Q ↔ Q (some (.int (nI u))) h := by
  obtain ⟨h1, -⟩ := id H
  simp only [k_57_0, k_57_0N, k_57_4, k_57_1, okG_iff h1, fld_of h1, am_cat, am_kill, Value.category, List.map_cons, List.map_nil, List.sum_cons, List.sum_nil, Option.toList_some, Option.toList_none, List.cons_append, List.nil_append, List.length_cons, List.length_nil, List.getD_cons_succ, List.getD_cons_zero, List.set_cons_succ, List.set_cons_zero, Nat.reduceAdd, Nat.reduceLT, Nat.reduceLeDiff, Nat.zero_le, Nat.zero_add, Nat.add_zero]
theorem sp_dadd {d : Nat} {h : AH} {a ir u : Nat} {D : List Int32} {vs : List Value} {x : Int32} {Q : Option Value → AH → Prop} (H : Dat h a ir D u vs) : wp d 27 0 [some (.ref a), some (.int x)] [] h Q ↔ if D.length < 60 then Q (some (.int 1)) ((h.set ir (.inl .int, vs.set D.length (.int x))).set a (.inr 5, [.ref ir, .int (nI (D.length + 1)), .int (nI u)])) else Q (some (.int 0)) h := by
  obtain ⟨h1, h2, h3, h4, h5, h6, h7, h8⟩ := id H
  have e60 : (60 : Int32) = nI 60 := rfl
  simp only [k_27_0, k_27_0N, k_27_4, k_27_6, k_27_9, k_27_10, k_27_1, okG_iff h1, fld_of h1, nb0, fb0, e60, nI_ltI (show D.length < 2 ^ 31 by omega) (show 60 < 2 ^ 31 by omega), am_cat, am_kill, Value.category, List.map_cons, List.map_nil, List.sum_cons, List.sum_nil, Option.toList_some, Option.toList_none, List.cons_append, List.nil_append, List.length_cons, List.length_nil, List.getD_cons_succ, List.getD_cons_zero, List.set_cons_succ, List.set_cons_zero, Nat.reduceAdd, Nat.reduceLT, Nat.reduceLeDiff, Nat.zero_le, Nat.zero_add, Nat.add_zero]
  by_cases hu : D.length < 60
  · have hne : ir ≠ a := fun e => by rw [e, h1] at h2; cases h2
    have k4 : okA am_isI h ir (nI D.length) := ⟨.int, vs, h2, rfl, nI_pos (by omega), by rw [nI_clamp (by omega)]; omega⟩
    have k1 : (h.set ir (.inl .int, vs.set D.length (.int x)))[a]? = some (.inr 5, [.ref ir, .int (nI D.length), .int (nI u)]) := by rw [get_set_ne hne]; exact h1
    simp only [hu, if_true, k_27_11, k_27_11N, k_27_15, k_27_15N, k_27_19, k_27_12, k_27_16, okG_iff h1, fld_of h1, am_cat, am_kill, Value.category, List.map_cons, List.map_nil, List.sum_cons, List.sum_nil, Option.toList_some, Option.toList_none, List.cons_append, List.nil_append, List.length_cons, List.length_nil, List.getD_cons_succ, List.getD_cons_zero, List.set_cons_succ, List.set_cons_zero, Nat.reduceAdd, Nat.reduceLT, Nat.reduceLeDiff, Nat.zero_le, Nat.zero_add, Nat.add_zero]
    rw [k_27_20 k4 h8, hast_of h2, nI_clamp (by omega)]
    simp only [k_27_21, k_27_21N, k_27_22, k_27_22i, k_27_26, k_27_27, k_27_31, k_27_32, k_27_23, k_27_28, okG_iff k1, fld_of k1, hput_of k1, h7, nI_1, nb1, fb1, am_cat, am_kill, Value.category, List.map_cons, List.map_nil, List.sum_cons, List.sum_nil, Option.toList_some, Option.toList_none, List.cons_append, List.nil_append, List.length_cons, List.length_nil, List.getD_cons_succ, List.getD_cons_zero, List.set_cons_succ, List.set_cons_zero, Nat.reduceAdd, Nat.reduceLT, Nat.reduceLeDiff, Nat.zero_le, Nat.zero_add, Nat.add_zero]
  · simp only [hu, if_false]
