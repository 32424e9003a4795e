/-! CHARS: what is asked of them -/
theorem nb1 : narrow .boolean (.int (1 : Int32)) = .int 1 := by decide
theorem nb0 : narrow .boolean (.int (0 : Int32)) = .int 0 := by decide
theorem fb1 : fits .boolean (.int (1 : Int32)) = true := by decide
theorem fb0 : fits .boolean (.int (0 : Int32)) = true := by decide
theorem drop_eq_iff {t u : List Int32} {n : Nat} (h1 : n < t.length) (h2 : n < u.length) : (t.drop n = u.drop n) ↔ (u[n] = t[n] ∧ t.drop (n + 1) = u.drop (n + 1)) := by
  rw [List.drop_eq_getElem_cons h1, List.drop_eq_getElem_cons h2, List.cons.injEq]
  exact ⟨fun h => ⟨h.1.symm, h.2⟩, fun h => ⟨h.1.symm, h.2⟩⟩
theorem chs_at {h : AH} {a ar n : Nat} {t : List Int32} {cs : List Value} (H : Chs h a ar t cs) (hn : n < t.length) : okA am_isC h ar (nI n) ∧ arr h ar (nI n) = .int t[n] := by
  obtain ⟨h1, h2, h3, h4, h5, h6, h7, h9⟩ := id H
  have hc := nI_clamp (n := n) (by omega)
  refine ⟨⟨.char, cs, h2, rfl, nI_pos (by omega), by rw [hc]; omega⟩, ?_⟩
  rw [arr_of h2, hc, List.getD_eq_getElem?_getD, h4 n t[n] (by simp [hn])]
  rfl
theorem sp_holds_loop {d : Nat} {a r ar : Nat} {t bs : List Int32} {cs : List Value} {h : AH} {Q : Option Value → AH → Prop} (H : Chs h a ar t cs) (S : Str h r bs) (he : t.length = bs.length) : ∀ (k n : Nat), n + k = t.length → (wp (d + 4) 24 15 [some (.ref a), some (.ref r), some (.int (nI n))] [] h Q ↔ Q (some (.int (if t.drop n = bs.drop n then 1 else 0))) h) := by
  obtain ⟨h1, h2, h3, h4, h5, h6, h7, h9⟩ := id H
  obtain ⟨v, -, -, s1, s2, s3, s4⟩ := id S
  intro k
  induction k with
  | zero =>
    intro n hn
    have hnl : ¬ nI n < nI t.length := nI_nlt (by omega) (by omega)
    simp only [k_24_15, k_24_16, k_24_16N, k_24_20, k_24_45, k_24_46, k_24_17, okG_iff h1, fld_of h1, hnl, if_false, nb1, fb1, am_cat, am_kill, Value.category, List.map_cons, List.map_nil, List.sum_cons, List.sum_nil, Option.toList_some, Option.toList_none, List.cons_append, List.nil_append, List.length_cons, List.length_nil, List.getD_cons_succ, List.getD_cons_zero, List.set_cons_succ, List.set_cons_zero, Nat.reduceAdd, Nat.reduceLT, Nat.reduceLeDiff, Nat.zero_le, Nat.zero_add, Nat.add_zero]
    rw [List.drop_eq_nil_of_le (by omega), List.drop_eq_nil_of_le (by omega), if_pos rfl]
  | succ k ih =>
    intro n hn
    have hlt : n < t.length := by omega
    have hlb : n < bs.length := by omega
    have hnl : nI n < nI t.length := nI_lt hlt (by omega)
    obtain ⟨k1, k2⟩ := chs_at H hlt
    simp only [k_24_15, k_24_16, k_24_16N, k_24_20, k_24_23, k_24_23N, k_24_24, k_24_28, k_24_28N, k_24_32, k_24_17, k_24_25, k_24_29, okG_iff h1, fld_of h1, okV_iff s1, sp_charAt S hlb, hnl, if_true, am_cat, am_kill, Value.category, List.map_cons, List.map_nil, List.sum_cons, List.sum_nil, Option.toList_some, Option.toList_none, List.cons_append, List.nil_append, List.length_cons, List.length_nil, List.getD_cons_succ, List.getD_cons_zero, List.set_cons_succ, List.set_cons_zero, Nat.reduceAdd, Nat.reduceLT, Nat.reduceLeDiff, Nat.zero_le, Nat.zero_add, Nat.add_zero]
    rw [k_24_33 k1, k2]
    simp only [k_24_34, drop_eq_iff hlt hlb]
    by_cases hq : bs[n] = t[n]
    · simp only [hq, if_true, true_and, k_24_39, k_24_42, nI_1, am_cat, am_kill, Value.category, List.map_cons, List.map_nil, List.sum_cons, List.sum_nil, Option.toList_some, Option.toList_none, List.cons_append, List.nil_append, List.length_cons, List.length_nil, List.getD_cons_succ, List.getD_cons_zero, List.set_cons_succ, List.set_cons_zero, Nat.reduceAdd, Nat.reduceLT, Nat.reduceLeDiff, Nat.zero_le, Nat.zero_add, Nat.add_zero]
      exact ih (n + 1) (by omega)
    · simp only [hq, if_false, false_and, k_24_37, k_24_38, nb0, fb0]
theorem sp_holds {d : Nat} {a r ar : Nat} {t bs : List Int32} {cs : List Value} {h : AH} {o : Option Value} {Q : Option Value → AH → Prop} (H : Chs h a ar t cs) (S : Str h r bs) : wp (d + 4) 24 0 [some (.ref a), some (.ref r), o] [] h Q ↔ Q (some (.int (if t = bs then 1 else 0))) h := by
  obtain ⟨h1, h2, h3, h4, h5, h6, h7, h9⟩ := id H
  obtain ⟨v, -, -, s1, s2, s3, s4⟩ := id S
  simp only [k_24_0, k_24_0N, k_24_4, k_24_4N, k_24_8, k_24_1, k_24_5, okG_iff h1, fld_of h1, okV_iff s1, sp_slen S, am_cat, am_kill, Value.category, List.map_cons, List.map_nil, List.sum_cons, List.sum_nil, Option.toList_some, Option.toList_none, List.cons_append, List.nil_append, List.length_cons, List.length_nil, List.getD_cons_succ, List.getD_cons_zero, List.set_cons_succ, List.set_cons_zero, Nat.reduceAdd, Nat.reduceLT, Nat.reduceLeDiff, Nat.zero_le, Nat.zero_add, Nat.add_zero]
  by_cases he : t.length = bs.length
  · rw [if_pos (by rw [he])]
    simp only [k_24_13, k_24_14, am_cat, am_kill, Value.category, List.map_cons, List.map_nil, List.sum_cons, List.sum_nil, Option.toList_some, Option.toList_none, List.cons_append, List.nil_append, List.length_cons, List.length_nil, List.getD_cons_succ, List.getD_cons_zero, List.set_cons_succ, List.set_cons_zero, Nat.reduceAdd, Nat.reduceLT, Nat.reduceLeDiff, Nat.zero_le, Nat.zero_add, Nat.add_zero]
    have := sp_holds_loop (d := d) (Q := Q) H S he t.length 0 (by omega)
    rw [List.drop_zero, List.drop_zero] at this
    exact this
  · rw [if_neg (fun e => he ((nI_eq (by omega) (by omega)).mp e).symm), if_neg (fun e => he (by rw [e]))]
    simp only [k_24_11, k_24_12, nb0, fb0]
theorem sp_same_loop {d : Nat} {a a2 ar ar2 : Nat} {t t2 : List Int32} {cs cs2 : List Value} {h : AH} {Q : Option Value → AH → Prop} (H : Chs h a ar t cs) (H2 : Chs h a2 ar2 t2 cs2) (he : t.length = t2.length) : ∀ (k n : Nat), n + k = t.length → (wp d 63 15 [some (.ref a), some (.ref a2), some (.int (nI n))] [] h Q ↔ Q (some (.int (if t.drop n = t2.drop n then 1 else 0))) h) := by
  obtain ⟨h1, h2, h3, h4, h5, h6, h7, h9⟩ := id H
  obtain ⟨b1, b2, b3, b4, b5, b6, b7, b9⟩ := id H2
  intro k
  induction k with
  | zero =>
    intro n hn
    have hnl : ¬ nI n < nI t.length := nI_nlt (by omega) (by omega)
    simp only [k_63_15, k_63_16, k_63_16N, k_63_20, k_63_46, k_63_47, k_63_17, okG_iff h1, fld_of h1, hnl, if_false, nb1, fb1, am_cat, am_kill, Value.category, List.map_cons, List.map_nil, List.sum_cons, List.sum_nil, Option.toList_some, Option.toList_none, List.cons_append, List.nil_append, List.length_cons, List.length_nil, List.getD_cons_succ, List.getD_cons_zero, List.set_cons_succ, List.set_cons_zero, Nat.reduceAdd, Nat.reduceLT, Nat.reduceLeDiff, Nat.zero_le, Nat.zero_add, Nat.add_zero]
    rw [List.drop_eq_nil_of_le (by omega), List.drop_eq_nil_of_le (by omega), if_pos rfl]
  | succ k ih =>
    intro n hn
    have hlt : n < t.length := by omega
    have hlb : n < t2.length := by omega
    have hnl : nI n < nI t.length := nI_lt hlt (by omega)
    obtain ⟨k1, k2⟩ := chs_at H hlt
    obtain ⟨k3, k4⟩ := chs_at H2 hlb
    simp only [k_63_15, k_63_16, k_63_16N, k_63_20, k_63_23, k_63_23N, k_63_27, k_63_17, k_63_24, okG_iff h1, fld_of h1, okG_iff b1, fld_of b1, hnl, if_true, am_cat, am_kill, Value.category, List.map_cons, List.map_nil, List.sum_cons, List.sum_nil, Option.toList_some, Option.toList_none, List.cons_append, List.nil_append, List.length_cons, List.length_nil, List.getD_cons_succ, List.getD_cons_zero, List.set_cons_succ, List.set_cons_zero, Nat.reduceAdd, Nat.reduceLT, Nat.reduceLeDiff, Nat.zero_le, Nat.zero_add, Nat.add_zero]
    rw [k_63_28 k3, k4]
    simp only [k_63_29, k_63_29N, k_63_33, k_63_30, okG_iff h1, fld_of h1, am_cat, am_kill, Value.category, List.map_cons, List.map_nil, List.sum_cons, List.sum_nil, Option.toList_some, Option.toList_none, List.cons_append, List.nil_append, List.length_cons, List.length_nil, List.getD_cons_succ, List.getD_cons_zero, List.set_cons_succ, List.set_cons_zero, Nat.reduceAdd, Nat.reduceLT, Nat.reduceLeDiff, Nat.zero_le, Nat.zero_add, Nat.add_zero]
    rw [k_63_34 k1, k2]
    simp only [k_63_35, drop_eq_iff hlt hlb]
    by_cases hq : t2[n] = t[n]
    · simp only [hq, if_true, true_and, k_63_40, k_63_43, nI_1, am_cat, am_kill, Value.category, List.map_cons, List.map_nil, List.sum_cons, List.sum_nil, Option.toList_some, Option.toList_none, List.cons_append, List.nil_append, List.length_cons, List.length_nil, List.getD_cons_succ, List.getD_cons_zero, List.set_cons_succ, List.set_cons_zero, Nat.reduceAdd, Nat.reduceLT, Nat.reduceLeDiff, Nat.zero_le, Nat.zero_add, Nat.add_zero]
      exact ih (n + 1) (by omega)
    · simp only [hq, if_false, false_and, k_63_38, k_63_39, nb0, fb0]
theorem sp_same {d : Nat} {a a2 ar ar2 : Nat} {t t2 : List Int32} {cs cs2 : List Value} {h : AH} {o : Option Value} {Q : Option Value → AH → Prop} (H : Chs h a ar t cs) (H2 : Chs h a2 ar2 t2 cs2) : wp d 63 0 [some (.ref a), some (.ref a2), o] [] h Q ↔ Q (some (.int (if t = t2 then 1 else 0))) h := by
  obtain ⟨h1, h2, h3, h4, h5, h6, h7, h9⟩ := id H
  obtain ⟨b1, b2, b3, b4, b5, b6, b7, b9⟩ := id H2
  simp only [k_63_0, k_63_0N, k_63_4, k_63_4N, k_63_8, k_63_1, k_63_5, okG_iff h1, fld_of h1, okG_iff b1, fld_of b1, am_cat, am_kill, Value.category, List.map_cons, List.map_nil, List.sum_cons, List.sum_nil, Option.toList_some, Option.toList_none, List.cons_append, List.nil_append, List.length_cons, List.length_nil, List.getD_cons_succ, List.getD_cons_zero, List.set_cons_succ, List.set_cons_zero, Nat.reduceAdd, Nat.reduceLT, Nat.reduceLeDiff, Nat.zero_le, Nat.zero_add, Nat.add_zero]
  by_cases he : t.length = t2.length
  · rw [if_pos (by rw [he])]
    simp only [k_63_13, k_63_14, am_cat, am_kill, Value.category, List.map_cons, List.map_nil, List.sum_cons, List.sum_nil, Option.toList_some, Option.toList_none, List.cons_append, List.nil_append, List.length_cons, List.length_nil, List.getD_cons_succ, List.getD_cons_zero, List.set_cons_succ, List.set_cons_zero, Nat.reduceAdd, Nat.reduceLT, Nat.reduceLeDiff, Nat.zero_le, Nat.zero_add, Nat.add_zero]
    have := sp_same_loop (d := d) (Q := Q) H H2 he t.length 0 (by omega)
    rw [List.drop_zero, List.drop_zero] at this
    exact this
  · rw [if_neg (fun e => he ((nI_eq (by omega) (by omega)).mp e).symm), if_neg (fun e => he (by rw [e]))]
    simp only [k_63_11, k_63_12, nb0, fb0]
/-- a letter of a name -/
def isLet (c : Int32) : Bool := (!decide (c < 65) && !decide (90 < c)) || (!decide (c < 97) && !decide (122 < c))
theorem sp_name_loop {d : Nat} {a ar : Nat} {t : List Int32} {cs : List Value} {h : AH} {Q : Option Value → AH → Prop} (H : Chs h a ar t cs) : ∀ (k n : Nat) (o : Option Value), n + k = t.length → (wp d 66 2 [some (.ref a), some (.int (nI n)), o] [] h Q ↔ Q (some (.int (if (t.drop n).all isLet = true ∧ 0 < t.length then 1 else 0))) h) := by
  obtain ⟨h1, h2, h3, h4, h5, h6, h7, h9⟩ := id H
  intro k
  induction k with
  | zero =>
    intro n o hn
    have hnl : ¬ nI n < nI t.length := nI_nlt (by omega) (by omega)
    simp only [k_66_2, k_66_3, k_66_3N, k_66_7, k_66_49, k_66_49N, k_66_53, k_66_4, k_66_50, okG_iff h1, fld_of h1, hnl, if_false, am_cat, am_kill, Value.category, List.map_cons, List.map_nil, List.sum_cons, List.sum_nil, Option.toList_some, Option.toList_none, List.cons_append, List.nil_append, List.length_cons, List.length_nil, List.getD_cons_succ, List.getD_cons_zero, List.set_cons_succ, List.set_cons_zero, Nat.reduceAdd, Nat.reduceLT, Nat.reduceLeDiff, Nat.zero_le, Nat.zero_add, Nat.add_zero]
    rw [List.drop_eq_nil_of_le (by omega)]
    by_cases hz : 0 < t.length
    · have hz2 : 0 < nI t.length := nI_lt (a := 0) hz (by omega)
      rw [if_pos hz2, if_pos ⟨rfl, hz⟩]
      simp only [k_66_56, k_66_57, k_66_61, nb1, fb1]
    · have hz2 : ¬ 0 < nI t.length := nI_nlt (b := 0) (a := 0) (Nat.le_refl _) (by omega) |> fun q => by rw [show t.length = 0 by omega]; exact q
      rw [if_neg hz2, if_neg (fun q => hz q.2)]
      simp only [k_66_60, k_66_61, nb0, fb0]
  | succ k ih =>
    intro n o hn
    have hlt : n < t.length := by omega
    have hnl : nI n < nI t.length := nI_lt hlt (by omega)
    obtain ⟨k1, k2⟩ := chs_at H hlt
    simp only [k_66_2, k_66_3, k_66_3N, k_66_7, k_66_10, k_66_10N, k_66_14, k_66_4, k_66_11, okG_iff h1, fld_of h1, hnl, if_true, am_cat, am_kill, Value.category, List.map_cons, List.map_nil, List.sum_cons, List.sum_nil, Option.toList_some, Option.toList_none, List.cons_append, List.nil_append, List.length_cons, List.length_nil, List.getD_cons_succ, List.getD_cons_zero, List.set_cons_succ, List.set_cons_zero, Nat.reduceAdd, Nat.reduceLT, Nat.reduceLeDiff, Nat.zero_le, Nat.zero_add, Nat.add_zero]
    rw [k_66_15 k1, k2]
    simp only [k_66_16, k_66_17, k_66_18, k_66_20, k_66_23, k_66_24, k_66_26, k_66_29, k_66_30, k_66_32, k_66_35, k_66_36, k_66_38, k_66_41, k_66_42, nb0, fb0, am_cat, am_kill, Value.category, List.map_cons, List.map_nil, List.sum_cons, List.sum_nil, Option.toList_some, Option.toList_none, List.cons_append, List.nil_append, List.length_cons, List.length_nil, List.getD_cons_succ, List.getD_cons_zero, List.set_cons_succ, List.set_cons_zero, Nat.reduceAdd, Nat.reduceLT, Nat.reduceLeDiff, Nat.zero_le, Nat.zero_add, Nat.add_zero]
    have go : wp d 66 43 [some (.ref a), some (.int (nI n)), some (.int t[n])] [] h Q ↔ Q (some (.int (if (t.drop (n + 1)).all isLet = true ∧ 0 < t.length then 1 else 0))) h := by
      simp only [k_66_43, k_66_46, nI_1, am_cat, am_kill, Value.category, List.map_cons, List.map_nil, List.sum_cons, List.sum_nil, Option.toList_some, Option.toList_none, List.cons_append, List.nil_append, List.length_cons, List.length_nil, List.getD_cons_succ, List.getD_cons_zero, List.set_cons_succ, List.set_cons_zero, Nat.reduceAdd, Nat.reduceLT, Nat.reduceLeDiff, Nat.zero_le, Nat.zero_add, Nat.add_zero]
      exact ih (n + 1) _ (by omega)
    rw [go, List.drop_eq_getElem_cons hlt, List.all_cons]
    unfold isLet
    by_cases c1 : t[n] < 65 <;> by_cases c2 : 90 < t[n] <;> by_cases c3 : t[n] < 97 <;> by_cases c4 : 122 < t[n] <;> simp [c1, c2, c3, c4]
theorem sp_name {d : Nat} {a ar : Nat} {t : List Int32} {cs : List Value} {h : AH} {o o2 : Option Value} {Q : Option Value → AH → Prop} (H : Chs h a ar t cs) : wp d 66 0 [some (.ref a), o, o2] [] h Q ↔ Q (some (.int (if t.all isLet = true ∧ 0 < t.length then 1 else 0))) h := by
  simp only [k_66_0, k_66_1, am_cat, am_kill, Value.category, List.map_cons, List.map_nil, List.sum_cons, List.sum_nil, Option.toList_some, Option.toList_none, List.cons_append, List.nil_append, List.length_cons, List.length_nil, List.getD_cons_succ, List.getD_cons_zero, List.set_cons_succ, List.set_cons_zero, Nat.reduceAdd, Nat.reduceLT, Nat.reduceLeDiff, Nat.zero_le, Nat.zero_add, Nat.add_zero]
  have := sp_name_loop (d := d) (Q := Q) H t.length 0 o2 (by omega)
  rw [List.drop_zero] at this
  exact this
