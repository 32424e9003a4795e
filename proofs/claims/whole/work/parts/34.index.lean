/-! STRING.INDEXOF -/
theorem asc_nI {c : Int32} (h : asc c) : ∃ n, n < 128 ∧ c = nI n := by
  obtain ⟨n, hn, rfl⟩ := nI_of (x := c) (by rw [Int32.lt_iff_toInt_lt]; have := h.1; show ¬ _ < (0 : Int32).toInt; rw [Int32.toInt_zero]; omega)
  have h2 := h.2
  rw [nI_toInt hn] at h2
  exact ⟨n, by omega, rfl⟩
theorem asc_byte {c : Int32} (h : asc c) : c.toInt8.toInt32 = c := by
  obtain ⟨n, hn, rfl⟩ := asc_nI h
  have key : ∀ n, n < 128 → (nI n).toInt8.toInt32 = nI n := by decide +kernel
  exact key n hn
/-- the first place from n on -/
def ixF (c : Int32) : List Int32 → Nat → Int32
  | [], _ => -1
  | b :: l, k => if b = c then nI k else ixF c l (k + 1)
theorem sp_ix_loop {d : Nat} {h : AH} {v : Nat} {bs : List Int32} {c f : Int32} {Q : Option Value → AH → Prop} (h2 : h[v]? = some (.inl .byte, bs.map Value.int)) (hb : bs.length < 2 ^ 20) : ∀ (k n : Nat), n + k = bs.length → (wp d 158 7 [some (.ref v), some (.int c), some (.int f), some (.int (nI bs.length)), some (.int c), some (.int (nI n))] [] h Q ↔ Q (some (.int (ixF c (bs.drop n) n))) h) := by
  intro k
  induction k with
  | zero =>
    intro n hn
    have hnl : ¬ nI n < nI bs.length := nI_nlt (by omega) (by omega)
    simp only [k_158_7, k_158_9, k_158_10, k_158_31, k_158_32, hnl, if_false, am_cat, am_kill, Value.category, List.map_cons, List.map_nil, List.sum_cons, List.sum_nil, Option.toList_some, Option.toList_none, List.cons_append, List.nil_append, List.length_cons, List.length_nil, List.getD_cons_succ, List.getD_cons_zero, List.set_cons_succ, List.set_cons_zero, Nat.reduceAdd, Nat.reduceLT, Nat.reduceLeDiff, Nat.zero_le, Nat.zero_add, Nat.add_zero]
    rw [List.drop_eq_nil_of_le (by omega)]
    rfl
  | succ k ih =>
    intro n hn
    have hlt : n < bs.length := by omega
    have hnl : nI n < nI bs.length := nI_lt hlt (by omega)
    have hc := nI_clamp (n := n) (by omega)
    have e1 : okA am_isB h v (nI n) := ⟨.byte, bs.map Value.int, h2, rfl, nI_pos (by omega), by rw [hc, List.length_map]; exact hlt⟩
    have e2 : (bs.map Value.int).getD n .null = .int bs[n] := by rw [List.getD_eq_getElem?_getD, List.getElem?_map, List.getElem?_eq_getElem hlt]; rfl
    simp only [k_158_7, k_158_9, k_158_10, k_158_13, k_158_13N, k_158_14, hnl, if_true, am_cat, am_kill, Value.category, List.map_cons, List.map_nil, List.sum_cons, List.sum_nil, Option.toList_some, Option.toList_none, List.cons_append, List.nil_append, List.length_cons, List.length_nil, List.getD_cons_succ, List.getD_cons_zero, List.set_cons_succ, List.set_cons_zero, Nat.reduceAdd, Nat.reduceLT, Nat.reduceLeDiff, Nat.zero_le, Nat.zero_add, Nat.add_zero]
    rw [k_158_16 e1, arr_of h2, hc, e2, List.drop_eq_getElem_cons hlt]
    unfold ixF
    simp only [k_158_17, k_158_19, am_cat, am_kill, Value.category, List.map_cons, List.map_nil, List.sum_cons, List.sum_nil, Option.toList_some, Option.toList_none, List.cons_append, List.nil_append, List.length_cons, List.length_nil, List.getD_cons_succ, List.getD_cons_zero, List.set_cons_succ, List.set_cons_zero, Nat.reduceAdd, Nat.reduceLT, Nat.reduceLeDiff, Nat.zero_le, Nat.zero_add, Nat.add_zero]
    by_cases hq : bs[n] = c
    · simp only [hq, if_true, k_158_22, k_158_24, am_cat, am_kill, Value.category, List.map_cons, List.map_nil, List.sum_cons, List.sum_nil, Option.toList_some, Option.toList_none, List.cons_append, List.nil_append, List.length_cons, List.length_nil, List.getD_cons_succ, List.getD_cons_zero, List.set_cons_succ, List.set_cons_zero, Nat.reduceAdd, Nat.reduceLT, Nat.reduceLeDiff, Nat.zero_le, Nat.zero_add, Nat.add_zero]
    · simp only [hq, if_false, k_158_25, k_158_28, nI_1, am_cat, am_kill, Value.category, List.map_cons, List.map_nil, List.sum_cons, List.sum_nil, Option.toList_some, Option.toList_none, List.cons_append, List.nil_append, List.length_cons, List.length_nil, List.getD_cons_succ, List.getD_cons_zero, List.set_cons_succ, List.set_cons_zero, Nat.reduceAdd, Nat.reduceLT, Nat.reduceLeDiff, Nat.zero_le, Nat.zero_add, Nat.add_zero]
      exact ih (n + 1) (by omega)
theorem ix_neg {c : Int32} : ∀ (l : List Int32) (k : Nat), k + l.length < 2 ^ 31 → (ixF c l k < 0 ↔ c ∉ l) := by
  intro l
  induction l with
  | nil => intro k _; simp [ixF]
  | cons b l ih =>
    intro k hk
    rw [List.length_cons] at hk
    unfold ixF
    by_cases h : b = c
    · subst h
      simp [nI_pos (show k < 2 ^ 31 by omega)]
    · rw [if_neg h, ih (k + 1) (by omega)]
      simp [Ne.symm h]
theorem sp_indexOf {d : Nat} {h : AH} {r : Nat} {bs : List Int32} {c : Int32} {Q : Option Value → AH → Prop} (S : Str h r bs) (hc : asc c) (h0 : 0 < bs.length) : wp (d + 4) 152 0 [some (.ref r), some (.int c)] [] h Q ↔ Q (some (.int (ixF c bs 0))) h := by
  obtain ⟨v, -, -, h1, h2, h3, h4⟩ := id S
  have e4 : (1 : Int32) = 0 ↔ False := by decide
  have e7 : Int32.ofNat bs.length = nI bs.length := rfl
  obtain ⟨n, hn, rfl⟩ := asc_nI hc
  have c1 : ¬ nI n < 0 := nI_pos (by omega)
  have c2 : ¬ (255 : Int32) < nI n := nI_nlt (a := 255) (b := n) (by omega) (by omega)
  have c3 : ((0 : Int32) < 0) ↔ False := by decide
  have c4 : ¬ nI bs.length < nI bs.length := nI_nlt (Nat.le_refl _) (by omega)
  have c5 : (0 : Int32) < nI bs.length := nI_lt (a := 0) h0 (by omega)
  simp only [k_152_0, k_152_0N, k_152_1, k_152_2, k_152_6, k_152_3, k_153_0, k_153_0N, k_153_4, k_153_7, k_153_7N, k_153_11, k_153_12, k_153_13, k_153_13N, k_153_20, k_153_23, k_153_23N, k_153_27, k_153_28, k_153_29, k_153_29N, k_153_36, k_153_1, k_153_8, k_153_14, k_153_17, k_153_24, k_153_30, k_151_3, k_151_6, k_151_6N, k_151_10, k_151_13, k_151_14, k_151_17, k_151_18, k_151_0, k_151_7, k_156_0, k_156_4, k_156_7, k_156_8, k_156_9, k_156_10, k_156_14, k_156_15, k_156_16, k_156_16N, k_156_17, k_156_21, k_156_22, k_156_23, k_156_24, k_156_27, k_156_28, k_156_29, k_156_29N, k_156_30, k_156_31, k_156_32, k_156_36, k_156_1, k_156_11, k_156_18, k_156_33, k_157_0, k_157_1, k_157_4, k_157_5, k_157_8, k_157_11, k_157_12, k_157_15, k_157_16, k_158_0, k_158_1, k_158_2, k_158_4, k_158_5, sp_slen S, okG_iff h1, okV_iff h1, fld_of h1, isA_iff h2, alen_of h2, e4, e7, c1, c2, c3, c4, c5, nb1, fb1, asc_byte hc, if_false, if_true, List.length_map, am_cat, am_kill, Value.category, List.map_cons, List.map_nil, List.sum_cons, List.sum_nil, Option.toList_some, Option.toList_none, List.cons_append, List.nil_append, List.length_cons, List.length_nil, List.getD_cons_succ, List.getD_cons_zero, List.set_cons_succ, List.set_cons_zero, Nat.reduceAdd, Nat.reduceLT, Nat.reduceLeDiff, Nat.zero_le, Nat.zero_add, Nat.add_zero]
  have lp := sp_ix_loop (d := d + 1) (f := 0) (c := nI n) (h := h) (Q := fun r_1 h1 => wp (d + 1 + 1) 156 36 [some (.ref v), some (.int (nI n)), some (.int 0), some (.int (nI bs.length))] (r_1.toList ++ []) h1 fun r_2 h1 => wp (d + 2 + 1) 153 36 [some (.ref r), some (.int (nI n)), some (.int 0)] (r_2.toList ++ []) h1 fun r_3 h1 => wp (d + 3 + 1) 152 6 [some (.ref r), some (.int (nI n))] (r_3.toList ++ []) h1 Q) h2 h4 bs.length 0 (by omega)
  rw [show nI 0 = 0 from rfl, List.drop_zero] at lp
  rw [lp]
  simp only [k_156_36, k_153_36, k_152_6, am_cat, am_kill, Value.category, List.map_cons, List.map_nil, List.sum_cons, List.sum_nil, Option.toList_some, Option.toList_none, List.cons_append, List.nil_append, List.length_cons, List.length_nil, List.getD_cons_succ, List.getD_cons_zero, List.set_cons_succ, List.set_cons_zero, Nat.reduceAdd, Nat.reduceLT, Nat.reduceLeDiff, Nat.zero_le, Nat.zero_add, Nat.add_zero]
