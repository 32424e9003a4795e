/-! READING A RESULT'S TYPE; ARRAY NAMES -/
def rdRes (t : List Int32) : Option Ty := if t = [86] then some (0, 86, 0) else match rdTy t with
  | none => none
  | some q => if q.2 = t.length then some q.1 else none
theorem sp_readResult {d : Nat} {a ar : Nat} {t : List Int32} {cs : List Value} {h : AH} {o1 : Option Value} {Q : Option Value → AH → Prop} (H : Chs h a ar t cs) (ht : ∀ c ∈ t, asc c) (S : Str h 0 sgl) (S2 : Str h 2 [86]) (K : match rdRes t with
      | none => ∀ g', Grow h g' 1 3 → Q (some .null) g'
      | some τ => ∀ g', Grow h g' 1 3 → g'[h.length]? = some (tyc τ) → Q (some (.ref h.length)) g') : wp (d + 6) 23 0 [some (.ref a), o1] [] h Q := by
  have hsN : sN ≤ h.length := Nat.le_of_lt (Nat.lt_of_le_of_lt H.2.2.2.2.1 (lt_of_get H.1))
  have hla : a < h.length := lt_of_get H.1
  have hlr : ar < h.length := lt_of_get H.2.1
  have h7 := H.2.2.2.2.2.2.1
  have h3 := H.2.2.1
  have e1 : ((0 : Int32) = 0) ↔ True := by decide
  have e2 : ((1 : Int32) = 0) ↔ False := by decide
  simp only [k_23_0, k_23_0N, k_23_1, k_23_3, okV_iff H.1, sp_holds H S2, am_cat, am_kill, Value.category, List.map_cons, List.map_nil, List.sum_cons, List.sum_nil, Option.toList_some, Option.toList_none, List.cons_append, List.nil_append, List.length_cons, List.length_nil, List.getD_cons_succ, List.getD_cons_zero, List.set_cons_succ, List.set_cons_zero, Nat.reduceAdd, Nat.reduceLT, Nat.reduceLeDiff, Nat.zero_le, Nat.zero_add, Nat.add_zero]
  unfold rdRes at K
  by_cases c1 : t = [86]
  · rw [if_pos c1] at K
    have g1 := get_top (h := h) (x := ((.inr 3, [.int 0, .int 0, .int 0]) : AC))
    simp only [c1, if_true, if_false, e2, k_23_6, k_23_12, k_23_12i, k_23_13, k_23_14, k_23_16, k_23_9, k_23_17, am_cat, am_kill, Value.category, List.map_cons, List.map_nil, List.sum_cons, List.sum_nil, Option.toList_some, Option.toList_none, List.cons_append, List.nil_append, List.length_cons, List.length_nil, List.getD_cons_succ, List.getD_cons_zero, List.set_cons_succ, List.set_cons_zero, Nat.reduceAdd, Nat.reduceLT, Nat.reduceLeDiff, Nat.zero_le, Nat.zero_add, Nat.add_zero]
    rw [sp_tinit g1 hsN, app_set]
    simp only [k_23_20, k_23_20N, am_cat, am_kill, Value.category, List.map_cons, List.map_nil, List.sum_cons, List.sum_nil, Option.toList_some, Option.toList_none, List.cons_append, List.nil_append, List.length_cons, List.length_nil, List.getD_cons_succ, List.getD_cons_zero, List.set_cons_succ, List.set_cons_zero, Nat.reduceAdd, Nat.reduceLT, Nat.reduceLeDiff, Nat.zero_le, Nat.zero_add, Nat.add_zero]
    exact K _ ((Grow.rf (h := h)).app (tyc (0, 86, 0))) get_top
  · rw [if_neg c1] at K
    simp only [c1, if_true, if_false, e1, k_23_6, k_23_21, k_23_21N, k_23_22, k_23_23, am_cat, am_kill, Value.category, List.map_cons, List.map_nil, List.sum_cons, List.sum_nil, Option.toList_some, Option.toList_none, List.cons_append, List.nil_append, List.length_cons, List.length_nil, List.getD_cons_succ, List.getD_cons_zero, List.set_cons_succ, List.set_cons_zero, Nat.reduceAdd, Nat.reduceLT, Nat.reduceLeDiff, Nat.zero_le, Nat.zero_add, Nat.add_zero]
    have rd := fun Q => sp_read (d := d) (f := 0) (o2 := none) (o3 := none) (o4 := none) (o5 := none) (Q := Q) H ht S (Nat.zero_le _)
    rw [show (0 : Int32) = nI 0 from rfl, rd, List.drop_zero]
    cases hr : rdTy t with
    | none =>
      rw [hr] at K
      simp only [k_23_26, k_23_26N, k_23_27, k_23_27N, k_23_28, k_23_28N, k_23_46, k_23_47, k_23_47N, am_cat, am_kill, Value.category, List.map_cons, List.map_nil, List.sum_cons, List.sum_nil, Option.toList_some, Option.toList_none, List.cons_append, List.nil_append, List.length_cons, List.length_nil, List.getD_cons_succ, List.getD_cons_zero, List.set_cons_succ, List.set_cons_zero, Nat.reduceAdd, Nat.reduceLT, Nat.reduceLeDiff, Nat.zero_le, Nat.zero_add, Nat.add_zero]
      exact K h (Grow.rf.le (by omega) (by omega))
    | some q =>
      rw [hr] at K
      dsimp only at K
      obtain ⟨q1, q2, q3, q4⟩ := rdTy_spl hr
      have G := (Grow.rf (h := h)).app (tyc q.1)
      have z3 := get_top (h := h) (x := tyc q.1)
      have z5 : (h ++ [tyc q.1])[h.length]? = some (.inr 3, [.int (nI q.1.1), .int q.1.2.1, .int (nI q.1.2.2)]) := z3
      have Hg : Chs (h ++ [tyc q.1]) a ar t cs := ⟨by rw [G.2.2.2 a hla]; exact H.1, by rw [G.2.2.2 ar hlr]; exact H.2.1, H.2.2⟩
      have e6 : (nI (spl q.1) = nI t.length) ↔ spl q.1 = t.length := nI_eq (by omega) (by omega)
      simp only [k_23_26, k_23_26N, k_23_27, k_23_27N, k_23_28, k_23_28N, k_23_31, k_23_31N, k_23_35, k_23_35N, k_23_39, k_23_32, k_23_36, okV_iff z5, okV_iff Hg.1, sp_spl z3, sp_len Hg, e6, am_cat, am_kill, Value.category, List.map_cons, List.map_nil, List.sum_cons, List.sum_nil, Option.toList_some, Option.toList_none, List.cons_append, List.nil_append, List.length_cons, List.length_nil, List.getD_cons_succ, List.getD_cons_zero, List.set_cons_succ, List.set_cons_zero, Nat.reduceAdd, Nat.reduceLT, Nat.reduceLeDiff, Nat.zero_le, Nat.zero_add, Nat.add_zero]
      by_cases c2 : spl q.1 = t.length
      · rw [if_pos (by omega)] at K
        simp only [c2, if_true, k_23_42, k_23_42N, k_23_43, k_23_47, k_23_47N, am_cat, am_kill, Value.category, List.map_cons, List.map_nil, List.sum_cons, List.sum_nil, Option.toList_some, Option.toList_none, List.cons_append, List.nil_append, List.length_cons, List.length_nil, List.getD_cons_succ, List.getD_cons_zero, List.set_cons_succ, List.set_cons_zero, Nat.reduceAdd, Nat.reduceLT, Nat.reduceLeDiff, Nat.zero_le, Nat.zero_add, Nat.add_zero]
        exact K _ (G.le (by omega) (by show 0 + 3 ≤ 3; omega)) z3
      · rw [if_neg (by omega)] at K
        simp only [c2, if_false, k_23_46, k_23_47, k_23_47N, am_cat, am_kill, Value.category, List.map_cons, List.map_nil, List.sum_cons, List.sum_nil, Option.toList_some, Option.toList_none, List.cons_append, List.nil_append, List.length_cons, List.length_nil, List.getD_cons_succ, List.getD_cons_zero, List.set_cons_succ, List.set_cons_zero, Nat.reduceAdd, Nat.reduceLT, Nat.reduceLeDiff, Nat.zero_le, Nat.zero_add, Nat.add_zero]
        exact K _ (G.le (by omega) (by show 0 + 3 ≤ 3; omega))
