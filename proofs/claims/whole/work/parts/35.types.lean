/-! TYPES, as the text spells them -/
def lbr : List Int32 → Nat
  | [] => 0
  | c :: r => if c = 91 then lbr r + 1 else 0
abbrev Ty : Type := Nat × Int32 × Nat
def sgl : List Int32 := [90, 66, 67, 83, 73, 74, 70, 68, 84]
/-- the type that a text begins with, and how long it is spelled -/
def rdTy (l : List Int32) : Option (Ty × Nat) := if 3 < lbr l then none else match l.drop (lbr l) with
  | [] => none
  | c :: r => if c = 79 then (match r with
    | [] => none
    | k :: _ => if ¬ k - 48 < 0 ∧ k - 48 < 4 then some ((lbr l, 79, (k - 48).toNatClampNeg), lbr l + 2) else none) else if c ∈ sgl then some ((lbr l, c, 0), lbr l + 1) else none
def tyc (τ : Ty) : AC := (.inr 3, [.int (nI τ.1), .int τ.2.1, .int (nI τ.2.2)])
theorem nI_sub2 {a b : Nat} (h : b ≤ a) : nI a - nI b = nI (a - b) := by
  have e : nI a = nI (a - b) + nI b := by rw [nI_add]; congr 1; omega
  rw [e, Int32.add_sub_cancel]
theorem app_set {h : AH} {x y : AC} : (h ++ [x]).set h.length y = h ++ [y] := by simp
theorem sp_tinit {d : Nat} {h : AH} {a : Nat} {x y z : Int32} {v0 v1 v2 : Value} {Q : Option Value → AH → Prop} (h1 : h[a]? = some (.inr 3, [v0, v1, v2])) (hs : sN ≤ a) : wp (d + 1) 4 0 [some (.ref a), some (.int x), some (.int y), some (.int z)] [] h Q ↔ Q none (h.set a (.inr 3, [.int x, .int y, .int z])) := by
  have k1 : (h.set a (.inr 3, [.int x, v1, v2]))[a]? = some (.inr 3, [.int x, v1, v2]) := get_set_eq h1
  have k2 : (h.set a (.inr 3, [.int x, .int y, v2]))[a]? = some (.inr 3, [.int x, .int y, v2]) := get_set_eq h1
  simp only [k_4_0, k_4_0N, k_4_4, k_4_4N, k_4_5, k_4_1, k_4_6, okG_iff h1, hput_of h1, hs, am_cat, am_kill, Value.category, List.map_cons, List.map_nil, List.sum_cons, List.sum_nil, Option.toList_some, Option.toList_none, List.cons_append, List.nil_append, List.length_cons, List.length_nil, List.getD_cons_succ, List.getD_cons_zero, List.set_cons_succ, List.set_cons_zero, Nat.reduceAdd, Nat.reduceLT, Nat.reduceLeDiff, Nat.zero_le, Nat.zero_add, Nat.add_zero]
  simp only [k_4_9, k_4_9N, k_4_10, k_4_11, okG_iff k1, hput_of k1, hs, List.set_set, am_cat, am_kill, Value.category, List.map_cons, List.map_nil, List.sum_cons, List.sum_nil, Option.toList_some, Option.toList_none, List.cons_append, List.nil_append, List.length_cons, List.length_nil, List.getD_cons_succ, List.getD_cons_zero, List.set_cons_succ, List.set_cons_zero, Nat.reduceAdd, Nat.reduceLT, Nat.reduceLeDiff, Nat.zero_le, Nat.zero_add, Nat.add_zero]
  simp only [k_4_14, k_4_14N, k_4_15, k_4_19, k_4_16, okG_iff k2, hput_of k2, hs, List.set_set, am_cat, am_kill, Value.category, List.map_cons, List.map_nil, List.sum_cons, List.sum_nil, Option.toList_some, Option.toList_none, List.cons_append, List.nil_append, List.length_cons, List.length_nil, List.getD_cons_succ, List.getD_cons_zero, List.set_cons_succ, List.set_cons_zero, Nat.reduceAdd, Nat.reduceLT, Nat.reduceLeDiff, Nat.zero_le, Nat.zero_add, Nat.add_zero]
theorem sp_read_loop {d : Nat} {a ar : Nat} {t : List Int32} {cs : List Value} {h : AH} {f : Int32} {o3 o4 o5 : Option Value} {Q : Option Value → AH → Prop} (H : Chs h a ar t cs) : ∀ (k n : Nat), n + k = t.length → (wp (d + 1) 15 2 [some (.ref a), some (.int f), some (.int (nI n)), o3, o4, o5] [] h Q ↔ wp (d + 1) 15 26 [some (.ref a), some (.int f), some (.int (nI (n + lbr (t.drop n)))), o3, o4, o5] [] h Q) := by
  obtain ⟨h1, h2, h3, h4, h5, h6, h7, h9⟩ := id H
  intro k
  induction k with
  | zero =>
    intro n hn
    have hnl : ¬ nI n < nI t.length := nI_nlt (by omega) (by omega)
    simp only [k_15_2, k_15_3, k_15_3N, k_15_7, k_15_4, okV_iff h1, sp_len H, hnl, if_false, am_cat, am_kill, Value.category, List.map_cons, List.map_nil, List.sum_cons, List.sum_nil, Option.toList_some, Option.toList_none, List.cons_append, List.nil_append, List.length_cons, List.length_nil, List.getD_cons_succ, List.getD_cons_zero, List.set_cons_succ, List.set_cons_zero, Nat.reduceAdd, Nat.reduceLT, Nat.reduceLeDiff, Nat.zero_le, Nat.zero_add, Nat.add_zero]
    rw [List.drop_eq_nil_of_le (by omega)]
    exact Iff.rfl
  | succ k ih =>
    intro n hn
    have hlt : n < t.length := by omega
    have hnl : nI n < nI t.length := nI_lt hlt (by omega)
    have hp : ¬ nI n < 0 := nI_pos (by omega)
    have hg : t.getD n (-1) = t[n] := by rw [List.getD_eq_getElem?_getD, List.getElem?_eq_getElem hlt]; rfl
    simp only [k_15_2, k_15_3, k_15_3N, k_15_7, k_15_10, k_15_10N, k_15_11, k_15_15, k_15_17, k_15_4, k_15_12, okV_iff h1, sp_len H, sp_get H, hnl, hp, if_true, if_false, nI_clamp (show n < 2 ^ 31 by omega), hg, am_cat, am_kill, Value.category, List.map_cons, List.map_nil, List.sum_cons, List.sum_nil, Option.toList_some, Option.toList_none, List.cons_append, List.nil_append, List.length_cons, List.length_nil, List.getD_cons_succ, List.getD_cons_zero, List.set_cons_succ, List.set_cons_zero, Nat.reduceAdd, Nat.reduceLT, Nat.reduceLeDiff, Nat.zero_le, Nat.zero_add, Nat.add_zero]
    rw [List.drop_eq_getElem_cons hlt]
    unfold lbr
    by_cases hq : t[n] = 91
    · simp only [hq, if_true, k_15_20, k_15_23, nI_1, am_cat, am_kill, Value.category, List.map_cons, List.map_nil, List.sum_cons, List.sum_nil, Option.toList_some, Option.toList_none, List.cons_append, List.nil_append, List.length_cons, List.length_nil, List.getD_cons_succ, List.getD_cons_zero, List.set_cons_succ, List.set_cons_zero, Nat.reduceAdd, Nat.reduceLT, Nat.reduceLeDiff, Nat.zero_le, Nat.zero_add, Nat.add_zero]
      rw [ih (n + 1) (by omega), show n + 1 + lbr (t.drop (n + 1)) = n + (lbr (t.drop (n + 1)) + 1) by omega]
    · simp only [hq, if_false, am_cat, am_kill, Value.category, List.map_cons, List.map_nil, List.sum_cons, List.sum_nil, Option.toList_some, Option.toList_none, List.cons_append, List.nil_append, List.length_cons, List.length_nil, List.getD_cons_succ, List.getD_cons_zero, List.set_cons_succ, List.set_cons_zero, Nat.reduceAdd, Nat.reduceLT, Nat.reduceLeDiff, Nat.zero_le, Nat.zero_add, Nat.add_zero]
theorem lbr_le (l : List Int32) : lbr l ≤ l.length := by
  induction l with
  | nil => exact Nat.le_refl _
  | cons c r ih =>
    unfold lbr
    split
    · rw [List.length_cons]; omega
    · omega
theorem sp_read {d : Nat} {a ar f : Nat} {t : List Int32} {cs : List Value} {h : AH} {o2 o3 o4 o5 : Option Value} {Q : Option Value → AH → Prop} (H : Chs h a ar t cs) (ht : ∀ c ∈ t, asc c) (S : Str h 0 sgl) (hf : f ≤ t.length) : wp (d + 5) 15 0 [some (.ref a), some (.int (nI f)), o2, o3, o4, o5] [] h Q ↔ (match rdTy (t.drop f) with | none => Q (some .null) h | some q => Q (some (.ref h.length)) (h ++ [tyc q.1])) := by
  obtain ⟨h1, h2, h3, h4, h5, h6, h7, h9⟩ := id H
  obtain ⟨v, -, -, s1, s2, s3, s4⟩ := id S
  have hsN : sN ≤ h.length := Nat.le_of_lt (Nat.lt_of_le_of_lt h5 (lt_of_get h1))
  have hb := lbr_le (t.drop f)
  rw [List.length_drop] at hb
  simp only [k_15_0, k_15_1, am_cat, am_kill, Value.category, List.map_cons, List.map_nil, List.sum_cons, List.sum_nil, Option.toList_some, Option.toList_none, List.cons_append, List.nil_append, List.length_cons, List.length_nil, List.getD_cons_succ, List.getD_cons_zero, List.set_cons_succ, List.set_cons_zero, Nat.reduceAdd, Nat.reduceLT, Nat.reduceLeDiff, Nat.zero_le, Nat.zero_add, Nat.add_zero]
  rw [sp_read_loop H (t.length - f) f (by omega)]
  generalize hB : lbr (t.drop f) = b at hb
  have e1 : nI (f + b) - nI f = nI b := by rw [nI_sub2 (by omega)]; congr 1; omega
  have e3 : ((3 : Int32) < nI b) ↔ 3 < b := nI_ltI (a := 3) (by omega) (by omega)
  have e4 : (nI (f + b) < nI t.length) ↔ f + b < t.length := nI_ltI (by omega) (by omega)
  simp only [k_15_26, k_15_27, k_15_28, k_15_29, k_15_30, k_15_31, k_15_32, k_15_35, k_15_36, k_15_36N, k_15_40, k_15_43, k_15_44, k_15_44N, k_15_37, okV_iff h1, sp_len H, e1, e3, e4, am_cat, am_kill, Value.category, List.map_cons, List.map_nil, List.sum_cons, List.sum_nil, Option.toList_some, Option.toList_none, List.cons_append, List.nil_append, List.length_cons, List.length_nil, List.getD_cons_succ, List.getD_cons_zero, List.set_cons_succ, List.set_cons_zero, Nat.reduceAdd, Nat.reduceLT, Nat.reduceLeDiff, Nat.zero_le, Nat.zero_add, Nat.add_zero]
  unfold rdTy
  rw [hB, List.drop_drop]
  by_cases c1 : 3 < b
  · simp only [c1, if_true]
  by_cases c2 : f + b < t.length
  · have hp : ¬ nI (f + b) < 0 := nI_pos (by omega)
    have hg : t.getD (f + b) (-1) = t[f + b] := by rw [List.getD_eq_getElem?_getD, List.getElem?_eq_getElem c2]; rfl
    have ha : asc t[f + b] := ht _ (List.getElem_mem c2)
    simp only [c1, c2, if_true, if_false, k_15_45, k_15_45N, k_15_46, k_15_50, k_15_52, k_15_54, k_15_56, k_15_47, okV_iff h1, sp_get H, hp, nI_clamp (show f + b < 2 ^ 31 by omega), hg, am_cat, am_kill, Value.category, List.map_cons, List.map_nil, List.sum_cons, List.sum_nil, Option.toList_some, Option.toList_none, List.cons_append, List.nil_append, List.length_cons, List.length_nil, List.getD_cons_succ, List.getD_cons_zero, List.set_cons_succ, List.set_cons_zero, Nat.reduceAdd, Nat.reduceLT, Nat.reduceLeDiff, Nat.zero_le, Nat.zero_add, Nat.add_zero]
    rw [List.drop_eq_getElem_cons c2]
    dsimp only
    by_cases c3 : t[f + b] = 79
    · have hp2 : ¬ nI (f + b + 1) < 0 := nI_pos (by omega)
      simp only [c3, if_true, k_15_59, k_15_59N, k_15_60, k_15_61, k_15_62, k_15_66, k_15_68, k_15_69, k_15_71, k_15_73, k_15_76, k_15_78, k_15_79, k_15_63, okV_iff h1, sp_get H, nI_1, hp2, if_false, nI_clamp (show f + b + 1 < 2 ^ 31 by omega), am_cat, am_kill, Value.category, List.map_cons, List.map_nil, List.sum_cons, List.sum_nil, Option.toList_some, Option.toList_none, List.cons_append, List.nil_append, List.length_cons, List.length_nil, List.getD_cons_succ, List.getD_cons_zero, List.set_cons_succ, List.set_cons_zero, Nat.reduceAdd, Nat.reduceLT, Nat.reduceLeDiff, Nat.zero_le, Nat.zero_add, Nat.add_zero]
      by_cases c4 : f + b + 1 < t.length
      · have hg2 : t.getD (f + b + 1) (-1) = t[f + b + 1] := by rw [List.getD_eq_getElem?_getD, List.getElem?_eq_getElem c4]; rfl
        rw [hg2, List.drop_eq_getElem_cons c4]
        dsimp only
        generalize t[f + b + 1] - 48 = x
        by_cases d1 : x < 0
        · simp only [d1, if_true, not_true, false_and, if_false, k_15_97, k_15_98, k_15_98N, am_cat, am_kill, Value.category, List.map_cons, List.map_nil, List.sum_cons, List.sum_nil, Option.toList_some, Option.toList_none, List.cons_append, List.nil_append, List.length_cons, List.length_nil, List.getD_cons_succ, List.getD_cons_zero, List.set_cons_succ, List.set_cons_zero, Nat.reduceAdd, Nat.reduceLT, Nat.reduceLeDiff, Nat.zero_le, Nat.zero_add, Nat.add_zero]
        · by_cases d2 : x < 4
          · obtain ⟨m, hm, rfl⟩ := nI_of d1
            have g1 := get_top (h := h) (x := ((.inr 3, [.int 0, .int 0, .int 0]) : AC))
            simp only [d1, d2, if_true, if_false, not_false_eq_true, true_and, and_self, nI_clamp hm, k_15_85, k_15_85i, k_15_86, k_15_87, k_15_89, k_15_82, k_15_91, am_cat, am_kill, Value.category, List.map_cons, List.map_nil, List.sum_cons, List.sum_nil, Option.toList_some, Option.toList_none, List.cons_append, List.nil_append, List.length_cons, List.length_nil, List.getD_cons_succ, List.getD_cons_zero, List.set_cons_succ, List.set_cons_zero, Nat.reduceAdd, Nat.reduceLT, Nat.reduceLeDiff, Nat.zero_le, Nat.zero_add, Nat.add_zero]
            rw [sp_tinit g1 hsN, app_set]
            simp only [k_15_94, k_15_98, k_15_98N, am_cat, am_kill, Value.category, List.map_cons, List.map_nil, List.sum_cons, List.sum_nil, Option.toList_some, Option.toList_none, List.cons_append, List.nil_append, List.length_cons, List.length_nil, List.getD_cons_succ, List.getD_cons_zero, List.set_cons_succ, List.set_cons_zero, Nat.reduceAdd, Nat.reduceLT, Nat.reduceLeDiff, Nat.zero_le, Nat.zero_add, Nat.add_zero]
            exact Iff.rfl
          · simp only [d1, d2, if_false, and_false, k_15_97, k_15_98, k_15_98N, am_cat, am_kill, Value.category, List.map_cons, List.map_nil, List.sum_cons, List.sum_nil, Option.toList_some, Option.toList_none, List.cons_append, List.nil_append, List.length_cons, List.length_nil, List.getD_cons_succ, List.getD_cons_zero, List.set_cons_succ, List.set_cons_zero, Nat.reduceAdd, Nat.reduceLT, Nat.reduceLeDiff, Nat.zero_le, Nat.zero_add, Nat.add_zero]
      · have hg2 : t.getD (f + b + 1) (-1) = -1 := by rw [List.getD_eq_getElem?_getD, List.getElem?_eq_none (by omega)]; rfl
        have e5 : ((-1 : Int32) - 48 < 0) ↔ True := by decide
        rw [hg2, List.drop_eq_nil_of_le (by omega)]
        simp only [e5, if_true, k_15_97, k_15_98, k_15_98N, am_cat, am_kill, Value.category, List.map_cons, List.map_nil, List.sum_cons, List.sum_nil, Option.toList_some, Option.toList_none, List.cons_append, List.nil_append, List.length_cons, List.length_nil, List.getD_cons_succ, List.getD_cons_zero, List.set_cons_succ, List.set_cons_zero, Nat.reduceAdd, Nat.reduceLT, Nat.reduceLeDiff, Nat.zero_le, Nat.zero_add, Nat.add_zero]
    · have e6 := ix_neg (c := t[f + b]) sgl 0 (by decide)
      have g1 := get_top (h := h) (x := ((.inr 3, [.int 0, .int 0, .int 0]) : AC))
      simp only [c3, if_false, k_15_101, k_15_103, k_15_107, k_15_99, k_15_104, okV_iff s1, i2c_chr (asc_chr ha), sp_indexOf S ha (show 0 < sgl.length by decide), e6, am_cat, am_kill, Value.category, List.map_cons, List.map_nil, List.sum_cons, List.sum_nil, Option.toList_some, Option.toList_none, List.cons_append, List.nil_append, List.length_cons, List.length_nil, List.getD_cons_succ, List.getD_cons_zero, List.set_cons_succ, List.set_cons_zero, Nat.reduceAdd, Nat.reduceLT, Nat.reduceLeDiff, Nat.zero_le, Nat.zero_add, Nat.add_zero]
      by_cases c5 : t[f + b] ∈ sgl
      · simp only [c5, not_true, if_true, if_false, k_15_113, k_15_113i, k_15_114, k_15_115, k_15_117, k_15_110, k_15_118, am_cat, am_kill, Value.category, List.map_cons, List.map_nil, List.sum_cons, List.sum_nil, Option.toList_some, Option.toList_none, List.cons_append, List.nil_append, List.length_cons, List.length_nil, List.getD_cons_succ, List.getD_cons_zero, List.set_cons_succ, List.set_cons_zero, Nat.reduceAdd, Nat.reduceLT, Nat.reduceLeDiff, Nat.zero_le, Nat.zero_add, Nat.add_zero]
        rw [sp_tinit g1 hsN, app_set]
        simp only [k_15_121, k_15_125, k_15_125N, am_cat, am_kill, Value.category, List.map_cons, List.map_nil, List.sum_cons, List.sum_nil, Option.toList_some, Option.toList_none, List.cons_append, List.nil_append, List.length_cons, List.length_nil, List.getD_cons_succ, List.getD_cons_zero, List.set_cons_succ, List.set_cons_zero, Nat.reduceAdd, Nat.reduceLT, Nat.reduceLeDiff, Nat.zero_le, Nat.zero_add, Nat.add_zero]
        exact Iff.rfl
      · simp only [c5, not_false_eq_true, if_true, if_false, k_15_124, k_15_125, k_15_125N, am_cat, am_kill, Value.category, List.map_cons, List.map_nil, List.sum_cons, List.sum_nil, Option.toList_some, Option.toList_none, List.cons_append, List.nil_append, List.length_cons, List.length_nil, List.getD_cons_succ, List.getD_cons_zero, List.set_cons_succ, List.set_cons_zero, Nat.reduceAdd, Nat.reduceLT, Nat.reduceLeDiff, Nat.zero_le, Nat.zero_add, Nat.add_zero]
  · simp only [c1, c2, if_false]
    rw [List.drop_eq_nil_of_le (by omega)]
