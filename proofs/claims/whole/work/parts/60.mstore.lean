/-! THE REFERENCE ADDS A TEST -/
abbrev Tst1 : Type := List Int32 × Bool
/-- the reference's tests: each without its last line's end -/
def Tsts (A : Nat → Nat → Int32) (T : List Tst1) : Prop := ∀ (i : Nat) (b : Tst1), T[i]? = some b → A 6 i = nI b.1.dropLast.length ∧ A 7 i = (if b.2 = true then 1 else 0) ∧ b.1.dropLast.length ≤ 299 ∧ ∀ (j : Nat) (c : Int32), b.1.dropLast[j]? = some c → Byt (A 4 (i * 75 + j / 4)) (j % 4) = c
section MST
variable {P S h : AH} {n : Nat → Int32} {A : Nat → Nat → Int32} {d : Nat} {D y : List Int32} {T : List Tst1} {Q : Option Value → AH → Prop}
theorem sp_sb_loop (hP : P.length = 135) {t : Nat} {x : List Int32} {o : Int32} (ht : t < 20) (hxb : ∀ (j : Nat) (c : Int32), x[j]? = some c → Byt (A 4 (t * 75 + j / 4)) (j % 4) = c) (hy : ∀ (j : Nat) (c : Int32), y[j]? = some c → A 8 (650 + j) = c) (he : x.length = y.length) (ly : y.length ≤ 299) : ∀ (j i : Nat), i + j = y.length → (wp (d + 1) 127 14 [some (.ref 135), some (.int (nI t)), some (.int (nI y.length)), some (.int (nI i))] [] (wr P S n A) Q ↔ Q (some (.int (if x.drop i = y.drop i then 1 else 0))) (wr P S n A)) := by
  intro j
  induction j with
  | zero =>
    intro i hi
    have e1 : ¬ nI i < nI y.length := nI_nlt (by omega) (by omega)
    simp only [k_127_14, k_127_15, k_127_16, k_127_46, k_127_47, e1, if_false, nb1, fb1, am_cat, am_kill, Value.category, List.map_cons, List.map_nil, List.sum_cons, List.sum_nil, Option.toList_some, Option.toList_none, List.cons_append, List.nil_append, List.length_cons, List.length_nil, List.getD_cons_succ, List.getD_cons_zero, List.set_cons_succ, List.set_cons_zero, Nat.reduceAdd, Nat.reduceLT, Nat.reduceLeDiff, Nat.zero_le, Nat.zero_add, Nat.add_zero]
    rw [List.drop_eq_nil_of_le (by omega), List.drop_eq_nil_of_le (by omega), if_pos rfl]
  | succ j ih =>
    intro i hi
    have e1 : nI i < nI y.length := nI_lt (by omega) (by omega)
    have hiy : i < y.length := by omega
    have hix : i < x.length := by omega
    have e2 : (650 : Int32) + nI i = nI (650 + i) := nI_add 650 i
    simp only [k_127_14, k_127_15, k_127_16, k_127_19, k_127_19N, k_127_20, k_127_21, k_127_22, e1, if_true, ovw hP, sp_bodyAt hP ht (show i < 300 by omega), hxb i x[i] (by simp [hix]), am_cat, am_kill, Value.category, List.map_cons, List.map_nil, List.sum_cons, List.sum_nil, Option.toList_some, Option.toList_none, List.cons_append, List.nil_append, List.length_cons, List.length_nil, List.getD_cons_succ, List.getD_cons_zero, List.set_cons_succ, List.set_cons_zero, Nat.reduceAdd, Nat.reduceLT, Nat.reduceLeDiff, Nat.zero_le, Nat.zero_add, Nat.add_zero]
    simp only [k_127_25, k_127_25N, k_127_29, k_127_32, k_127_33, k_127_26, ogw hP, fw_18 hP, e2, am_cat, am_kill, Value.category, List.map_cons, List.map_nil, List.sum_cons, List.sum_nil, Option.toList_some, Option.toList_none, List.cons_append, List.nil_append, List.length_cons, List.length_nil, List.getD_cons_succ, List.getD_cons_zero, List.set_cons_succ, List.set_cons_zero, Nat.reduceAdd, Nat.reduceLT, Nat.reduceLeDiff, Nat.zero_le, Nat.zero_add, Nat.add_zero]
    rw [k_127_34 (ow_8 hP (by omega)), aw_8 hP (by omega), hy i y[i] (by simp [hiy])]
    rw [List.drop_eq_getElem_cons hiy, List.drop_eq_getElem_cons hix]
    by_cases c : x[i] = y[i]
    · simp only [k_127_35, k_127_40, k_127_43, c, if_true, nI_1, am_cat, am_kill, Value.category, List.map_cons, List.map_nil, List.sum_cons, List.sum_nil, Option.toList_some, Option.toList_none, List.cons_append, List.nil_append, List.length_cons, List.length_nil, List.getD_cons_succ, List.getD_cons_zero, List.set_cons_succ, List.set_cons_zero, Nat.reduceAdd, Nat.reduceLT, Nat.reduceLeDiff, Nat.zero_le, Nat.zero_add, Nat.add_zero]
      rw [ih (i + 1) (by omega)]
      by_cases c2 : x.drop (i + 1) = y.drop (i + 1)
      · rw [if_pos c2, if_pos (by rw [c2])]
      · rw [if_neg c2, if_neg (fun q => c2 (by injection q))]
    · simp only [k_127_35, k_127_38, k_127_39, c, if_false, nb0, fb0, am_cat, am_kill, Value.category, List.map_cons, List.map_nil, List.sum_cons, List.sum_nil, Option.toList_some, Option.toList_none, List.cons_append, List.nil_append, List.length_cons, List.length_nil, List.getD_cons_succ, List.getD_cons_zero, List.set_cons_succ, List.set_cons_zero, Nat.reduceAdd, Nat.reduceLT, Nat.reduceLeDiff, Nat.zero_le, Nat.zero_add, Nat.add_zero]
      rw [if_neg (fun q => c (by injection q))]
theorem sp_sameBody (hP : P.length = 135) {t : Nat} {x : List Int32} (ht : t < 20) (hx : A 6 t = nI x.length) (hxb : ∀ (j : Nat) (c : Int32), x[j]? = some c → Byt (A 4 (t * 75 + j / 4)) (j % 4) = c) (hy : ∀ (j : Nat) (c : Int32), y[j]? = some c → A 8 (650 + j) = c) (lx : x.length ≤ 299) (ly : y.length ≤ 299) : wp (d + 1) 127 0 [some (.ref 135), some (.int (nI t)), some (.int (nI y.length)), none] [] (wr P S n A) Q ↔ Q (some (.int (if x = y then 1 else 0))) (wr P S n A) := by
  have e1 : (nI x.length = nI y.length) ↔ x.length = y.length := nI_eq (by omega) (by omega)
  simp only [k_127_0, k_127_0N, k_127_4, k_127_1, ogw hP, fw_16 hP, am_cat, am_kill, Value.category, List.map_cons, List.map_nil, List.sum_cons, List.sum_nil, Option.toList_some, Option.toList_none, List.cons_append, List.nil_append, List.length_cons, List.length_nil, List.getD_cons_succ, List.getD_cons_zero, List.set_cons_succ, List.set_cons_zero, Nat.reduceAdd, Nat.reduceLT, Nat.reduceLeDiff, Nat.zero_le, Nat.zero_add, Nat.add_zero]
  rw [k_127_5 (ow_6 hP ht), aw_6 hP ht, hx]
  simp only [k_127_6, k_127_7, e1, am_cat, am_kill, Value.category, List.map_cons, List.map_nil, List.sum_cons, List.sum_nil, Option.toList_some, Option.toList_none, List.cons_append, List.nil_append, List.length_cons, List.length_nil, List.getD_cons_succ, List.getD_cons_zero, List.set_cons_succ, List.set_cons_zero, Nat.reduceAdd, Nat.reduceLT, Nat.reduceLeDiff, Nat.zero_le, Nat.zero_add, Nat.add_zero]
  by_cases c : x.length = y.length
  · simp only [c, if_true, k_127_12, k_127_13, am_cat, am_kill, Value.category, List.map_cons, List.map_nil, List.sum_cons, List.sum_nil, Option.toList_some, Option.toList_none, List.cons_append, List.nil_append, List.length_cons, List.length_nil, List.getD_cons_succ, List.getD_cons_zero, List.set_cons_succ, List.set_cons_zero, Nat.reduceAdd, Nat.reduceLT, Nat.reduceLeDiff, Nat.zero_le, Nat.zero_add, Nat.add_zero]
    have := sp_sb_loop (P := P) (S := S) (n := n) (d := d) (Q := Q) (o := 0) hP ht hxb hy c ly y.length 0 (by omega)
    rw [List.drop_zero, List.drop_zero] at this
    exact this
  · simp only [c, if_false, k_127_10, k_127_11, nb0, fb0, am_cat, am_kill, Value.category, List.map_cons, List.map_nil, List.sum_cons, List.sum_nil, Option.toList_some, Option.toList_none, List.cons_append, List.nil_append, List.length_cons, List.length_nil, List.getD_cons_succ, List.getD_cons_zero, List.set_cons_succ, List.set_cons_zero, Nat.reduceAdd, Nat.reduceLT, Nat.reduceLeDiff, Nat.zero_le, Nat.zero_add, Nat.add_zero]
    rw [if_neg (fun q => c (by rw [q]))]
theorem ad_loop (hP : P.length = 135) {th : Int32} (n3 : n 3 = nI T.length) (hT : T.length ≤ 20) (hS : Tsts A T) (hy : ∀ (j : Nat) (c : Int32), y[j]? = some c → A 8 (650 + j) = c) (ly : y.length ≤ 299) : ∀ (j i : Nat), i + j = T.length → (wp (d + 2) 126 47 [some (.ref 135), some (.int th), some (.int (nI y.length)), some (.int (nI i))] [] (wr P S n A) Q ↔ if (T.drop i).any (fun b => decide (b.1.dropLast = y)) = true then Q (some (.int (-4))) (wr P S n A) else wp (d + 2) 126 73 [some (.ref 135), some (.int th), some (.int (nI y.length)), some (.int (nI T.length))] [] (wr P S n A) Q) := by
  have z1 : ((1 : Int32) = 0) ↔ False := by decide
  have z0 : ((0 : Int32) = 0) ↔ True := by decide
  intro j
  induction j with
  | zero =>
    intro i hi
    obtain rfl : i = T.length := by omega
    have e1 : ¬ nI T.length < nI T.length := nI_nlt (Nat.le_refl _) (by omega)
    simp only [k_126_47, k_126_48, k_126_48N, k_126_52, k_126_49, ogw hP, fw_3 hP, n3, e1, if_false, am_cat, am_kill, Value.category, List.map_cons, List.map_nil, List.sum_cons, List.sum_nil, Option.toList_some, Option.toList_none, List.cons_append, List.nil_append, List.length_cons, List.length_nil, List.getD_cons_succ, List.getD_cons_zero, List.set_cons_succ, List.set_cons_zero, Nat.reduceAdd, Nat.reduceLT, Nat.reduceLeDiff, Nat.zero_le, Nat.zero_add, Nat.add_zero]
    rw [List.drop_eq_nil_of_le (Nat.le_refl _), if_neg (by simp)]
  | succ j ih =>
    intro i hi
    have hil : i < T.length := by omega
    have e1 : nI i < nI T.length := nI_lt (by omega) (by omega)
    obtain ⟨s1, s2, s3, s4⟩ := hS i T[i] (by simp [hil])
    rw [List.drop_eq_getElem_cons hil, List.any_cons]
    simp only [k_126_47, k_126_48, k_126_48N, k_126_52, k_126_55, k_126_55N, k_126_56, k_126_57, k_126_49, k_126_58, ogw hP, fw_3 hP, ovw hP, n3, e1, if_true, sp_sameBody hP (show i < 20 by omega) s1 s4 hy s3 ly, am_cat, am_kill, Value.category, List.map_cons, List.map_nil, List.sum_cons, List.sum_nil, Option.toList_some, Option.toList_none, List.cons_append, List.nil_append, List.length_cons, List.length_nil, List.getD_cons_succ, List.getD_cons_zero, List.set_cons_succ, List.set_cons_zero, Nat.reduceAdd, Nat.reduceLT, Nat.reduceLeDiff, Nat.zero_le, Nat.zero_add, Nat.add_zero]
    by_cases c : T[i].1.dropLast = y
    · simp only [c, if_true, k_126_61, k_126_64, k_126_66, z1, if_false, decide_true, Bool.true_or]
    · simp only [c, if_false, k_126_61, k_126_67, k_126_70, z0, if_true, nI_1, decide_false, Bool.false_or, am_cat, am_kill, Value.category, List.map_cons, List.map_nil, List.sum_cons, List.sum_nil, Option.toList_some, Option.toList_none, List.cons_append, List.nil_append, List.length_cons, List.length_nil, List.getD_cons_succ, List.getD_cons_zero, List.set_cons_succ, List.set_cons_zero, Nat.reduceAdd, Nat.reduceLT, Nat.reduceLeDiff, Nat.zero_le, Nat.zero_add, Nat.add_zero]
      exact ih (i + 1) (by omega)
theorem ad_zero (hP : P.length = 135) {th v2 : Int32} {m : Nat} (n3 : n 3 = nI m) (hm : m < 20) : ∀ (j i : Nat) (A : Nat → Nat → Int32), i + j = 75 → (∀ A', (∀ x, x ≠ 4 → A' x = A x) → (∀ q, (q < m * 75 + i ∨ m * 75 + 75 ≤ q) → A' 4 q = A 4 q) → (∀ q, m * 75 + i ≤ q → q < m * 75 + 75 → A' 4 q = 0) → wp d 126 102 [some (.ref 135), some (.int th), some (.int v2), some (.int (nI 75))] [] (wr P S n A') Q) → wp d 126 75 [some (.ref 135), some (.int th), some (.int v2), some (.int (nI i))] [] (wr P S n A) Q := by
  have hs : sN ≤ 140 := by decide
  intro j
  induction j with
  | zero =>
    intro i A hi K
    obtain rfl : i = 75 := by omega
    have e1 : ¬ nI 75 < 75 := by decide
    simp only [k_126_75, k_126_76, k_126_78, e1, if_false, am_cat, am_kill, Value.category, List.map_cons, List.map_nil, List.sum_cons, List.sum_nil, Option.toList_some, Option.toList_none, List.cons_append, List.nil_append, List.length_cons, List.length_nil, List.getD_cons_succ, List.getD_cons_zero, List.set_cons_succ, List.set_cons_zero, Nat.reduceAdd, Nat.reduceLT, Nat.reduceLeDiff, Nat.zero_le, Nat.zero_add, Nat.add_zero]
    exact K A (fun _ _ => rfl) (fun _ _ => rfl) (fun q h1 h2 => by omega)
  | succ j ih =>
    intro i A hi K
    have e1 : nI i < 75 := nI_lt (b := 75) (by omega) (by omega)
    have e2 : nI m * 75 + nI i = nI (m * 75 + i) := by rw [show (75 : Int32) = nI 75 from rfl, nI_mul, nI_add]
    simp only [k_126_75, k_126_76, k_126_78, k_126_81, k_126_81N, k_126_85, k_126_85N, k_126_89, k_126_91, k_126_92, k_126_93, k_126_94, k_126_82, k_126_86, e1, if_true, ogw hP, fw_14 hP, fw_3 hP, n3, e2, am_cat, am_kill, Value.category, List.map_cons, List.map_nil, List.sum_cons, List.sum_nil, Option.toList_some, Option.toList_none, List.cons_append, List.nil_append, List.length_cons, List.length_nil, List.getD_cons_succ, List.getD_cons_zero, List.set_cons_succ, List.set_cons_zero, Nat.reduceAdd, Nat.reduceLT, Nat.reduceLeDiff, Nat.zero_le, Nat.zero_add, Nat.add_zero]
    rw [k_126_95 (ow_4 hP (by omega)) hs, sw_4 hP (by omega)]
    simp only [k_126_96, k_126_99, nI_1, am_cat, am_kill, Value.category, List.map_cons, List.map_nil, List.sum_cons, List.sum_nil, Option.toList_some, Option.toList_none, List.cons_append, List.nil_append, List.length_cons, List.length_nil, List.getD_cons_succ, List.getD_cons_zero, List.set_cons_succ, List.set_cons_zero, Nat.reduceAdd, Nat.reduceLT, Nat.reduceLeDiff, Nat.zero_le, Nat.zero_add, Nat.add_zero]
    refine ih (i + 1) _ (by omega) (fun A' a1 a2 a3 => K A' (fun x hx => ?_) (fun q hq => ?_) (fun q h1 h2 => ?_))
    · rw [a1 x hx]
      exact uA_r hx
    · rw [a2 q (by omega)]
      exact uA_m (by omega)
    · by_cases c : q = m * 75 + i
      · rw [a2 q (by omega), c, uA_s]
      · exact a3 q (by omega) h2
theorem ad_store (hP : P.length = 135) {th : Int32} {m : Nat} (n3 : n 3 = nI m) (hm : m < 20) (hy : ∀ (j : Nat) (c : Int32), y[j]? = some c → A 8 (650 + j) = c) (ly : y.length ≤ 299) (hc : ∀ c ∈ y, asc c) : ∀ (j i : Nat) (B : Nat → Nat → Int32), i + j = y.length → (∀ x, x ≠ 4 → B x = A x) → (∀ q, (q < m * 75 ∨ m * 75 + 75 ≤ q) → B 4 q = A 4 q) → (∀ q c, q < i → y[q]? = some c → Byt (B 4 (m * 75 + q / 4)) (q % 4) = c) → (∀ q, i ≤ q → q < 300 → Byt (B 4 (m * 75 + q / 4)) (q % 4) = 0) → (∀ B', (∀ x, x ≠ 4 → B' x = A x) → (∀ q, (q < m * 75 ∨ m * 75 + 75 ≤ q) → B' 4 q = A 4 q) → (∀ q c, y[q]? = some c → Byt (B' 4 (m * 75 + q / 4)) (q % 4) = c) → wp d 126 151 [some (.ref 135), some (.int th), some (.int (nI y.length)), some (.int (nI y.length))] [] (wr P S n B') Q) → wp d 126 104 [some (.ref 135), some (.int th), some (.int (nI y.length)), some (.int (nI i))] [] (wr P S n B) Q := by
  have hs : sN ≤ 140 := by decide
  have h4 : ¬ (4 : Int32) = 0 := by decide
  intro j
  induction j with
  | zero =>
    intro i B hi b1 b2 b3 b4 K
    obtain rfl : i = y.length := by omega
    have e1 : ¬ nI y.length < nI y.length := nI_nlt (Nat.le_refl _) (by omega)
    simp only [k_126_104, k_126_105, k_126_106, e1, if_false, am_cat, am_kill, Value.category, List.map_cons, List.map_nil, List.sum_cons, List.sum_nil, Option.toList_some, Option.toList_none, List.cons_append, List.nil_append, List.length_cons, List.length_nil, List.getD_cons_succ, List.getD_cons_zero, List.set_cons_succ, List.set_cons_zero, Nat.reduceAdd, Nat.reduceLT, Nat.reduceLeDiff, Nat.zero_le, Nat.zero_add, Nat.add_zero]
    exact K B b1 b2 (fun q c hq => b3 q c (List.getElem?_eq_some_iff.mp hq).1 hq)
  | succ j ih =>
    intro i B hi b1 b2 b3 b4 K
    have hil : i < y.length := by omega
    have e1 : nI i < nI y.length := nI_lt (by omega) (by omega)
    have e2 : nI m * 75 = nI (m * 75) := nI_mul m 75
    have e3 : nI i / 4 = nI (i / 4) := pk_div (d := 4) (by omega) (by decide) (by decide)
    have e4 : (650 : Int32) + nI i = nI (650 + i) := nI_add 650 i
    have e5 : nI i - nI (i / 4) * 4 = nI (i % 4) := by rw [← e3]; exact pk_rem (d := 4) (by omega) (by decide) (by decide)
    have e6 : (8 : Int32) * nI (i % 4) = nI (8 * (i % 4)) := nI_mul 8 _
    have hc1 : asc y[i] := hc _ (List.getElem_mem hil)
    simp only [k_126_104, k_126_105, k_126_106, k_126_109, k_126_109N, k_126_113, k_126_113N, k_126_117, k_126_119, k_126_120, k_126_121, k_126_110, k_126_114, k_126_122 h4, k_126_123, k_126_124, e1, if_true, ogw hP, fw_14 hP, fw_3 hP, n3, e2, e3, nI_add, am_cat, am_kill, Value.category, List.map_cons, List.map_nil, List.sum_cons, List.sum_nil, Option.toList_some, Option.toList_none, List.cons_append, List.nil_append, List.length_cons, List.length_nil, List.getD_cons_succ, List.getD_cons_zero, List.set_cons_succ, List.set_cons_zero, Nat.reduceAdd, Nat.reduceLT, Nat.reduceLeDiff, Nat.zero_le, Nat.zero_add, Nat.add_zero]
    rw [k_126_125 (ow_4 hP (by omega)), aw_4 hP (by omega)]
    simp only [k_126_126, k_126_126N, k_126_130, k_126_133, k_126_134, k_126_127, ogw hP, fw_18 hP, e4, am_cat, am_kill, Value.category, List.map_cons, List.map_nil, List.sum_cons, List.sum_nil, Option.toList_some, Option.toList_none, List.cons_append, List.nil_append, List.length_cons, List.length_nil, List.getD_cons_succ, List.getD_cons_zero, List.set_cons_succ, List.set_cons_zero, Nat.reduceAdd, Nat.reduceLT, Nat.reduceLeDiff, Nat.zero_le, Nat.zero_add, Nat.add_zero]
    rw [k_126_135 (ow_8 hP (by omega)), aw_8 hP (by omega), b1 8 (by decide), hy i y[i] (by simp [hil])]
    simp only [k_126_136, k_126_138, k_126_139, k_126_140 h4, k_126_141, k_126_142, k_126_143, e3, e5, e6, am_cat, am_kill, Value.category, List.map_cons, List.map_nil, List.sum_cons, List.sum_nil, Option.toList_some, Option.toList_none, List.cons_append, List.nil_append, List.length_cons, List.length_nil, List.getD_cons_succ, List.getD_cons_zero, List.set_cons_succ, List.set_cons_zero, Nat.reduceAdd, Nat.reduceLT, Nat.reduceLeDiff, Nat.zero_le, Nat.zero_add, Nat.add_zero]
    rw [k_126_144 (ow_4 hP (by omega)) hs, sw_4 hP (by omega)]
    simp only [k_126_145, k_126_148, nI_1, am_cat, am_kill, Value.category, List.map_cons, List.map_nil, List.sum_cons, List.sum_nil, Option.toList_some, Option.toList_none, List.cons_append, List.nil_append, List.length_cons, List.length_nil, List.getD_cons_succ, List.getD_cons_zero, List.set_cons_succ, List.set_cons_zero, Nat.reduceAdd, Nat.reduceLT, Nat.reduceLeDiff, Nat.zero_le, Nat.zero_add, Nat.add_zero]
    have key : ∀ q, q < 300 → Byt (uA B 4 (m * 75 + i / 4) (B 4 (m * 75 + i / 4) ||| (y[i] <<< (nI (8 * (i % 4)) &&& 31))) 4 (m * 75 + q / 4)) (q % 4) = if q = i then y[i] else Byt (B 4 (m * 75 + q / 4)) (q % 4) := by
      intro q hq
      by_cases c : q / 4 = i / 4
      · rw [c, uA_s, Byt_or (Nat.mod_lt _ (by decide)) (Nat.mod_lt _ (by decide)) hc1]
        by_cases c2 : q = i
        · rw [if_pos c2, if_pos (by rw [c2]), b4 i (Nat.le_refl _) (by omega), or_0]
        · rw [if_neg c2, if_neg (by omega)]
      · rw [uA_m (by omega), if_neg (fun z => c (by rw [z]))]
    refine ih (i + 1) _ (by omega) (fun x hx => by rw [uA_r hx]; exact b1 x hx) (fun q hq => by rw [uA_m (by omega)]; exact b2 q hq) (fun q c hq hqc => ?_) (fun q h1 h2 => ?_) K
    · rw [key q (by omega)]
      by_cases c2 : q = i
      · subst c2
        rw [if_pos rfl]
        rw [List.getElem?_eq_getElem hil] at hqc
        exact Option.some.inj hqc
      · rw [if_neg c2]
        exact b3 q c (by omega) hqc
    · rw [key q h2, if_neg (by omega)]
      exact b4 q (by omega) h2
/-- what add answers and leaves -/
theorem mi_add (hP : P.length = 135) {u : Nat} {th : Bool} (hu : u < 2 ^ 30) (n4 : n 4 = nI u) (n2 : n 2 = nI D.length) (hD : D.length ≤ 60) (n3 : n 3 = nI T.length) (hT : T.length < 20) (hS : Tsts A T) (h9 : A 9 2 = nI y.length) (h8 : y.length < 2 ^ 30) (hy : ∀ (j : Nat) (c : Int32), j < 325 → y[j]? = some c → A 8 (650 + j) = c) (hc : y.length ≤ 299 → ∀ c ∈ y, asc c) (K1 : 299 < y.length → Q (some (.int (-5))) (wr P S (upd n 5 (nI (min u D.length))) A)) (K2 : y.length ≤ 299 → T.any (fun b => decide (b.1.dropLast = y)) = true → Q (some (.int (-4))) (wr P S (upd n 5 (nI (min u D.length))) A)) (K3 : y.length ≤ 299 → ¬ T.any (fun b => decide (b.1.dropLast = y)) = true → ∀ A', (∀ x, x ≠ 4 → x ≠ 6 → x ≠ 7 → A' x = A x) → Tsts A' (T ++ [(y ++ [10], th)]) → Q (some (.int (nI T.length))) (wr P S (upd (upd n 5 (nI (min u D.length))) 3 (nI (T.length + 1))) A')) : wp (d + 2) 126 0 [some (.ref 135), some (.int (if th = true then 1 else 0)), none, none] [] (wr P S n A) Q := by
  have hs : sN ≤ 135 := by decide
  have hs6 : sN ≤ 142 := by decide
  have hs7 : sN ≤ 143 := by decide
  have en : (if th = true then (1 : Int32) else 0) &&& 1 = if th = true then 1 else 0 := by cases th <;> decide
  generalize hth : (if th = true then (1 : Int32) else 0) = tv at en
  have e1 : (nI u < nI D.length) ↔ u < D.length := nI_ltI (by omega) (by omega)
  have e300 : ((300 : Int32) < nI (y.length + 1)) ↔ 300 < y.length + 1 := nI_ltI (a := 300) (by omega) (by omega)
  have i2 : (2 : Int32) = nI 2 := rfl
  have main : wp (d + 2) 126 26 [some (.ref 135), some (.int tv), none, none] [] (wr P S (upd n 5 (nI (min u D.length))) A) Q := by
    have v3 : upd n 5 (nI (min u D.length)) 3 = nI T.length := by rw [pk_un (by decide)]; exact n3
    generalize hv : upd n 5 (nI (min u D.length)) = v at K1 K2 K3 v3
    simp only [k_126_26, k_126_26N, k_126_30, k_126_27, ogw hP, fw_19 hP, am_cat, am_kill, Value.category, List.map_cons, List.map_nil, List.sum_cons, List.sum_nil, Option.toList_some, Option.toList_none, List.cons_append, List.nil_append, List.length_cons, List.length_nil, List.getD_cons_succ, List.getD_cons_zero, List.set_cons_succ, List.set_cons_zero, Nat.reduceAdd, Nat.reduceLT, Nat.reduceLeDiff, Nat.zero_le, Nat.zero_add, Nat.add_zero]
    rw [i2, k_126_31 (ow_9 hP (by decide)), aw_9 hP (by decide), h9]
    simp only [k_126_32, k_126_33, k_126_34, k_126_35, k_126_36, k_126_39, nI_1, e300, am_cat, am_kill, Value.category, List.map_cons, List.map_nil, List.sum_cons, List.sum_nil, Option.toList_some, Option.toList_none, List.cons_append, List.nil_append, List.length_cons, List.length_nil, List.getD_cons_succ, List.getD_cons_zero, List.set_cons_succ, List.set_cons_zero, Nat.reduceAdd, Nat.reduceLT, Nat.reduceLeDiff, Nat.zero_le, Nat.zero_add, Nat.add_zero]
    by_cases c : 300 < y.length + 1
    · rw [if_pos c]
      simp only [k_126_42, k_126_44]
      exact K1 (by omega)
    · rw [if_neg c]
      have ly : y.length ≤ 299 := by omega
      have hy' : ∀ (j : Nat) (c : Int32), y[j]? = some c → A 8 (650 + j) = c := fun j c hj => hy j c (by have := (List.getElem?_eq_some_iff.mp hj).1; omega) hj
      simp only [k_126_45, k_126_46, am_cat, am_kill, Value.category, List.map_cons, List.map_nil, List.sum_cons, List.sum_nil, Option.toList_some, Option.toList_none, List.cons_append, List.nil_append, List.length_cons, List.length_nil, List.getD_cons_succ, List.getD_cons_zero, List.set_cons_succ, List.set_cons_zero, Nat.reduceAdd, Nat.reduceLT, Nat.reduceLeDiff, Nat.zero_le, Nat.zero_add, Nat.add_zero]
      rw [show (0 : Int32) = nI 0 from rfl, ad_loop hP v3 (by omega) hS hy' ly T.length 0 (by omega), List.drop_zero]
      by_cases ca : T.any (fun b => decide (b.1.dropLast = y)) = true
      · rw [if_pos ca]
        exact K2 ly ca
      · rw [if_neg ca]
        simp only [k_126_73, k_126_74, am_cat, am_kill, Value.category, List.map_cons, List.map_nil, List.sum_cons, List.sum_nil, Option.toList_some, Option.toList_none, List.cons_append, List.nil_append, List.length_cons, List.length_nil, List.getD_cons_succ, List.getD_cons_zero, List.set_cons_succ, List.set_cons_zero, Nat.reduceAdd, Nat.reduceLT, Nat.reduceLeDiff, Nat.zero_le, Nat.zero_add, Nat.add_zero]
        rw [show (0 : Int32) = nI 0 from rfl]
        refine ad_zero hP v3 hT 75 0 A (by omega) (fun B b1 b2 b3 => ?_)
        simp only [k_126_102, k_126_103, am_cat, am_kill, Value.category, List.map_cons, List.map_nil, List.sum_cons, List.sum_nil, Option.toList_some, Option.toList_none, List.cons_append, List.nil_append, List.length_cons, List.length_nil, List.getD_cons_succ, List.getD_cons_zero, List.set_cons_succ, List.set_cons_zero, Nat.reduceAdd, Nat.reduceLT, Nat.reduceLeDiff, Nat.zero_le, Nat.zero_add, Nat.add_zero]
        rw [show (0 : Int32) = nI 0 from rfl]
        refine ad_store (A := A) hP v3 hT hy' ly (hc ly) y.length 0 B (by omega) b1 (fun q hq => b2 q (by omega)) (fun q c hq => by omega) (fun q h1 h2 => ?_) (fun B' c1 c2 c3 => ?_)
        · rw [b3 (T.length * 75 + q / 4) (by omega) (by omega)]
          exact Byt_0 (Nat.mod_lt _ (by decide))
        · simp only [k_126_151, k_126_151N, k_126_155, k_126_155N, k_126_159, k_126_152, k_126_156, ogw hP, fw_16 hP, fw_3 hP, v3, am_cat, am_kill, Value.category, List.map_cons, List.map_nil, List.sum_cons, List.sum_nil, Option.toList_some, Option.toList_none, List.cons_append, List.nil_append, List.length_cons, List.length_nil, List.getD_cons_succ, List.getD_cons_zero, List.set_cons_succ, List.set_cons_zero, Nat.reduceAdd, Nat.reduceLT, Nat.reduceLeDiff, Nat.zero_le, Nat.zero_add, Nat.add_zero]
          rw [k_126_160 (ow_6 hP hT) hs6, sw_6 hP hT]
          simp only [k_126_161, k_126_161N, k_126_165, k_126_165N, k_126_169, k_126_162, k_126_166, ogw hP, fw_17 hP, fw_3 hP, v3, am_cat, am_kill, Value.category, List.map_cons, List.map_nil, List.sum_cons, List.sum_nil, Option.toList_some, Option.toList_none, List.cons_append, List.nil_append, List.length_cons, List.length_nil, List.getD_cons_succ, List.getD_cons_zero, List.set_cons_succ, List.set_cons_zero, Nat.reduceAdd, Nat.reduceLT, Nat.reduceLeDiff, Nat.zero_le, Nat.zero_add, Nat.add_zero]
          rw [k_126_170 (ow_7 hP hT) hs7, en, sw_7 hP hT]
          have v33 : upd v 3 (nI (T.length + 1)) 3 = nI (T.length + 1) := pk_us
          simp only [k_126_171, k_126_171N, k_126_172, k_126_172i, k_126_176, k_126_177, k_126_181, k_126_181N, k_126_185, k_126_186, k_126_187, k_126_173, k_126_178, k_126_182, ogw hP, fw_3 hP, hw_3 hP, hs, v3, nI_1, v33, nI_pred, am_cat, am_kill, Value.category, List.map_cons, List.map_nil, List.sum_cons, List.sum_nil, Option.toList_some, Option.toList_none, List.cons_append, List.nil_append, List.length_cons, List.length_nil, List.getD_cons_succ, List.getD_cons_zero, List.set_cons_succ, List.set_cons_zero, Nat.reduceAdd, Nat.reduceLT, Nat.reduceLeDiff, Nat.zero_le, Nat.zero_add, Nat.add_zero]
          refine K3 ly ca _ (fun x h4 h6 h7 => by rw [uA_r h7, uA_r h6]; exact c1 x h4) (fun i b hb => ?_)
          rw [List.getElem?_append] at hb
          by_cases ci : i < T.length
          · rw [if_pos ci] at hb
            obtain ⟨s1, s2, s3, s4⟩ := hS i b hb
            refine ⟨?_, ?_, s3, fun j c hj => ?_⟩
            · rw [uA_n (by decide), uA_m (by omega), c1 6 (by decide)]
              exact s1
            · rw [uA_m (by omega), uA_n (by decide), c1 7 (by decide)]
              exact s2
            · have hjl := (List.getElem?_eq_some_iff.mp hj).1
              rw [uA_n (by decide), uA_n (by decide), c2 _ (by omega)]
              exact s4 j c hj
          · rw [if_neg ci] at hb
            have hz : i - T.length < 1 := (List.getElem?_eq_some_iff.mp hb).1
            obtain rfl : i = T.length := by omega
            rw [Nat.sub_self] at hb
            cases hb
            rw [List.dropLast_concat]
            refine ⟨?_, ?_, ly, fun j c hj => ?_⟩
            · rw [uA_n (by decide), uA_s]
            · rw [uA_s]
              exact hth.symm
            · rw [uA_n (by decide), uA_n (by decide)]
              exact c3 j c hj
  simp only [k_126_0, k_126_0N, k_126_1, k_126_1N, k_126_5, k_126_5N, k_126_9, k_126_2, k_126_6, ogw hP, fw_4 hP, fw_2 hP, n4, n2, e1, am_cat, am_kill, Value.category, List.map_cons, List.map_nil, List.sum_cons, List.sum_nil, Option.toList_some, Option.toList_none, List.cons_append, List.nil_append, List.length_cons, List.length_nil, List.getD_cons_succ, List.getD_cons_zero, List.set_cons_succ, List.set_cons_zero, Nat.reduceAdd, Nat.reduceLT, Nat.reduceLeDiff, Nat.zero_le, Nat.zero_add, Nat.add_zero]
  by_cases c : u < D.length
  · rw [Nat.min_eq_left (by omega)] at main
    simp only [c, if_true, k_126_12, k_126_12N, k_126_16, k_126_13, k_126_23, ogw hP, fw_4 hP, hw_5 hP, hs, n4, am_cat, am_kill, Value.category, List.map_cons, List.map_nil, List.sum_cons, List.sum_nil, Option.toList_some, Option.toList_none, List.cons_append, List.nil_append, List.length_cons, List.length_nil, List.getD_cons_succ, List.getD_cons_zero, List.set_cons_succ, List.set_cons_zero, Nat.reduceAdd, Nat.reduceLT, Nat.reduceLeDiff, Nat.zero_le, Nat.zero_add, Nat.add_zero]
    exact main
  · rw [Nat.min_eq_right (by omega)] at main
    simp only [c, if_false, k_126_19, k_126_19N, k_126_20, k_126_23, ogw hP, fw_2 hP, hw_5 hP, hs, n2, am_cat, am_kill, Value.category, List.map_cons, List.map_nil, List.sum_cons, List.sum_nil, Option.toList_some, Option.toList_none, List.cons_append, List.nil_append, List.length_cons, List.length_nil, List.getD_cons_succ, List.getD_cons_zero, List.set_cons_succ, List.set_cons_zero, Nat.reduceAdd, Nat.reduceLT, Nat.reduceLeDiff, Nat.zero_le, Nat.zero_add, Nat.add_zero]
    exact main
end MST
