/-! THE REFERENCE BREAKS LINES -/
def obI (g : Nat) : Option Nat → Int32
  | none => -1
  | some i => nI (g + i)
theorem drop_head {α : Type} (l : List α) (k : Nat) : (l.drop k).head? = l[k]? := by
  rw [List.head?_eq_getElem?, List.getElem?_drop, Nat.add_zero]
section MBR
variable {P S : AH} {n : Nat → Int32} {A : Nat → Nat → Int32} {d W g lead : Nat} {X : List Int32} {Q : Option Value → AH → Prop}
theorem cm_loop (hP : P.length = 135) (n0 : n 0 = nI W) (n6 : n 6 = nI X.length) (hX : X.length < 16800) (hW : W < 1000) (hl : lead < 1000) (hT : ∀ (j : Nat) (c : Int32), X[j]? = some c → Tx A j = c) : ∀ (N k : Nat) (q : Int32) (b : Option Nat) (o6 : Option Value), X.length - k ≤ N → g ≤ k → k ≤ X.length + 1 → (wp (d + 1) 144 8 [some (.ref 135), some (.int (nI g)), some (.int (nI lead)), some (.int (obI g b)), some (.int q), some (.int (nI k)), o6] [] (wr P S n A) Q ↔ Q (some (.int (obI g (lc (fun i => decide (i < W) && decide (lead < i)) (X.drop k) (k - g) q false b)))) (wr P S n A)) := by
  intro N
  induction N with
  | zero =>
    intro k q b o6 hN hg hk
    have e1 : ¬ nI k < nI X.length := nI_nlt (by omega) (by omega)
    simp only [k_144_8, k_144_10, k_144_10N, k_144_14, k_144_141, k_144_142, k_144_11, ogw hP, fw_6 hP, n6, e1, if_false, am_cat, am_kill, Value.category, List.map_cons, List.map_nil, List.sum_cons, List.sum_nil, Option.toList_some, Option.toList_none, List.cons_append, List.nil_append, List.length_cons, List.length_nil, List.getD_cons_succ, List.getD_cons_zero, List.set_cons_succ, List.set_cons_zero, Nat.reduceAdd, Nat.reduceLT, Nat.reduceLeDiff, Nat.zero_le, Nat.zero_add, Nat.add_zero]
    rw [List.drop_eq_nil_of_le (by omega)]
    rfl
  | succ N ih =>
    intro k q b o6 hN hg hk
    by_cases ck : k < X.length
    · have e1 : nI k < nI X.length := nI_lt (by omega) (by omega)
      have eT : Byt (A 5 (k / 4)) (k % 4) = X[k] := hT k X[k] (by simp [ck])
      have hd := List.drop_eq_getElem_cons ck
      have hk1 : nI k + 1 = nI (k + 1) := nI_1 k
      have e5 : (nI (k + 1) < nI X.length) ↔ k + 1 < X.length := nI_ltI (by omega) (by omega)
      have e6 : nI k - nI g = nI (k - g) := nI_sub2 hg
      have e7 : (nI (k - g) < nI W) ↔ k - g < W := nI_ltI (by omega) (by omega)
      have e8 : (nI lead < nI (k - g)) ↔ lead < k - g := nI_ltI (by omega) (by omega)
      rw [hd]
      simp only [k_144_8, k_144_10, k_144_10N, k_144_14, k_144_17, k_144_17N, k_144_18, k_144_11, k_144_20, ogw hP, fw_6 hP, ovw hP, n6, e1, if_true, sp_textAt hP (show k < 16800 by omega), eT, am_cat, am_kill, Value.category, List.map_cons, List.map_nil, List.sum_cons, List.sum_nil, Option.toList_some, Option.toList_none, List.cons_append, List.nil_append, List.length_cons, List.length_nil, List.getD_cons_succ, List.getD_cons_zero, List.set_cons_succ, List.set_cons_zero, Nat.reduceAdd, Nat.reduceLT, Nat.reduceLeDiff, Nat.zero_le, Nat.zero_add, Nat.add_zero]
      simp only [k_144_23, k_144_25, k_144_27, am_cat, am_kill, Value.category, List.map_cons, List.map_nil, List.sum_cons, List.sum_nil, Option.toList_some, Option.toList_none, List.cons_append, List.nil_append, List.length_cons, List.length_nil, List.getD_cons_succ, List.getD_cons_zero, List.set_cons_succ, List.set_cons_zero, Nat.reduceAdd, Nat.reduceLT, Nat.reduceLeDiff, Nat.zero_le, Nat.zero_add, Nat.add_zero]
      have go : ∀ (q' : Int32) (b' : Option Nat) (o : Option Value), wp (d + 1) 144 135 [some (.ref 135), some (.int (nI g)), some (.int (nI lead)), some (.int (obI g b')), some (.int q'), some (.int (nI k)), o] [] (wr P S n A) Q ↔ Q (some (.int (obI g (lc (fun i => decide (i < W) && decide (lead < i)) (X.drop (k + 1)) (k - g + 1) q' false b')))) (wr P S n A) := by
        intro q' b' o
        simp only [k_144_135, k_144_138, hk1, am_cat, am_kill, Value.category, List.map_cons, List.map_nil, List.sum_cons, List.sum_nil, Option.toList_some, Option.toList_none, List.cons_append, List.nil_append, List.length_cons, List.length_nil, List.getD_cons_succ, List.getD_cons_zero, List.set_cons_succ, List.set_cons_zero, Nat.reduceAdd, Nat.reduceLT, Nat.reduceLeDiff, Nat.zero_le, Nat.zero_add, Nat.add_zero]
        rw [ih (k + 1) q' b' o (by omega) (by omega) (by omega), show k + 1 - g = k - g + 1 by omega]
      have e0 : lc (fun i => decide (i < W) && decide (lead < i)) (X[k] :: X.drop (k + 1)) (k - g) q false b = if q = 0 then (if X[k] = 34 ∨ X[k] = 39 then lc (fun i => decide (i < W) && decide (lead < i)) (X.drop (k + 1)) (k - g + 1) X[k] false b else lc (fun i => decide (i < W) && decide (lead < i)) (X.drop (k + 1)) (k - g + 1) 0 false (if X[k] = 44 ∧ (X.drop (k + 1)).head? = some 32 ∧ (decide (k - g < W) && decide (lead < k - g)) = true then some (k - g) else b)) else if X[k] = 92 then lc (fun i => decide (i < W) && decide (lead < i)) (X.drop (k + 1)) (k - g + 1) q true b else lc (fun i => decide (i < W) && decide (lead < i)) (X.drop (k + 1)) (k - g + 1) (if X[k] = q then 0 else q) false b := rfl
      rw [e0]
      by_cases cq : q = 0
      · rw [if_pos cq, if_pos cq]
        simp only [k_144_43, k_144_45, if_pos cq, k_144_61, k_144_63, k_144_65, k_144_68, k_144_70, k_144_72, am_cat, am_kill, Value.category, List.map_cons, List.map_nil, List.sum_cons, List.sum_nil, Option.toList_some, Option.toList_none, List.cons_append, List.nil_append, List.length_cons, List.length_nil, List.getD_cons_succ, List.getD_cons_zero, List.set_cons_succ, List.set_cons_zero, Nat.reduceAdd, Nat.reduceLT, Nat.reduceLeDiff, Nat.zero_le, Nat.zero_add, Nat.add_zero]
        rw [ite_two (r := X[k] = 34 ∨ X[k] = 39) Iff.rfl]
        by_cases cs : X[k] = 34 ∨ X[k] = 39
        · rw [if_pos cs, if_pos cs]
          simp only [k_144_75, k_144_77, k_144_79, am_cat, am_kill, Value.category, List.map_cons, List.map_nil, List.sum_cons, List.sum_nil, Option.toList_some, Option.toList_none, List.cons_append, List.nil_append, List.length_cons, List.length_nil, List.getD_cons_succ, List.getD_cons_zero, List.set_cons_succ, List.set_cons_zero, Nat.reduceAdd, Nat.reduceLT, Nat.reduceLeDiff, Nat.zero_le, Nat.zero_add, Nat.add_zero]
          exact go _ _ _
        · rw [if_neg cs, if_neg cs]
          subst cq
          simp only [k_144_82, k_144_84, k_144_86, am_cat, am_kill, Value.category, List.map_cons, List.map_nil, List.sum_cons, List.sum_nil, Option.toList_some, Option.toList_none, List.cons_append, List.nil_append, List.length_cons, List.length_nil, List.getD_cons_succ, List.getD_cons_zero, List.set_cons_succ, List.set_cons_zero, Nat.reduceAdd, Nat.reduceLT, Nat.reduceLeDiff, Nat.zero_le, Nat.zero_add, Nat.add_zero]
          by_cases c1 : X[k] = 44
          · rw [if_pos c1]
            simp only [k_144_89, k_144_91, k_144_92, k_144_93, k_144_93N, k_144_97, k_144_94, ogw hP, fw_6 hP, n6, hk1, e5, am_cat, am_kill, Value.category, List.map_cons, List.map_nil, List.sum_cons, List.sum_nil, Option.toList_some, Option.toList_none, List.cons_append, List.nil_append, List.length_cons, List.length_nil, List.getD_cons_succ, List.getD_cons_zero, List.set_cons_succ, List.set_cons_zero, Nat.reduceAdd, Nat.reduceLT, Nat.reduceLeDiff, Nat.zero_le, Nat.zero_add, Nat.add_zero]
            by_cases c2 : k + 1 < X.length
            · rw [if_pos c2]
              have eT2 : Byt (A 5 ((k + 1) / 4)) ((k + 1) % 4) = X[k + 1] := hT (k + 1) X[k + 1] (by simp [c2])
              have eh : (X.drop (k + 1)).head? = some X[k + 1] := by rw [drop_head, List.getElem?_eq_getElem c2]
              simp only [k_144_100, k_144_100N, k_144_101, k_144_103, k_144_104, k_144_105, ovw hP, hk1, sp_textAt hP (show k + 1 < 16800 by omega), eT2, am_cat, am_kill, Value.category, List.map_cons, List.map_nil, List.sum_cons, List.sum_nil, Option.toList_some, Option.toList_none, List.cons_append, List.nil_append, List.length_cons, List.length_nil, List.getD_cons_succ, List.getD_cons_zero, List.set_cons_succ, List.set_cons_zero, Nat.reduceAdd, Nat.reduceLT, Nat.reduceLeDiff, Nat.zero_le, Nat.zero_add, Nat.add_zero]
              simp only [k_144_108, k_144_110, am_cat, am_kill, Value.category, List.map_cons, List.map_nil, List.sum_cons, List.sum_nil, Option.toList_some, Option.toList_none, List.cons_append, List.nil_append, List.length_cons, List.length_nil, List.getD_cons_succ, List.getD_cons_zero, List.set_cons_succ, List.set_cons_zero, Nat.reduceAdd, Nat.reduceLT, Nat.reduceLeDiff, Nat.zero_le, Nat.zero_add, Nat.add_zero]
              by_cases c3 : X[k + 1] = 32
              · rw [if_pos c3]
                simp only [k_144_113, k_144_115, k_144_116, k_144_117, k_144_117N, k_144_121, k_144_118, ogw hP, fw_0 hP, n0, e6, e7, am_cat, am_kill, Value.category, List.map_cons, List.map_nil, List.sum_cons, List.sum_nil, Option.toList_some, Option.toList_none, List.cons_append, List.nil_append, List.length_cons, List.length_nil, List.getD_cons_succ, List.getD_cons_zero, List.set_cons_succ, List.set_cons_zero, Nat.reduceAdd, Nat.reduceLT, Nat.reduceLeDiff, Nat.zero_le, Nat.zero_add, Nat.add_zero]
                by_cases c4 : k - g < W
                · rw [if_pos c4]
                  simp only [k_144_124, k_144_126, k_144_127, k_144_128, k_144_129, e6, e8, am_cat, am_kill, Value.category, List.map_cons, List.map_nil, List.sum_cons, List.sum_nil, Option.toList_some, Option.toList_none, List.cons_append, List.nil_append, List.length_cons, List.length_nil, List.getD_cons_succ, List.getD_cons_zero, List.set_cons_succ, List.set_cons_zero, Nat.reduceAdd, Nat.reduceLT, Nat.reduceLeDiff, Nat.zero_le, Nat.zero_add, Nat.add_zero]
                  by_cases c5 : lead < k - g
                  · rw [if_pos c5, if_pos ⟨c1, by rw [eh, c3], by simp [c4, c5]⟩]
                    simp only [k_144_132, k_144_134, am_cat, am_kill, Value.category, List.map_cons, List.map_nil, List.sum_cons, List.sum_nil, Option.toList_some, Option.toList_none, List.cons_append, List.nil_append, List.length_cons, List.length_nil, List.getD_cons_succ, List.getD_cons_zero, List.set_cons_succ, List.set_cons_zero, Nat.reduceAdd, Nat.reduceLT, Nat.reduceLeDiff, Nat.zero_le, Nat.zero_add, Nat.add_zero]
                    have eo : nI k = obI g (some (k - g)) := by show nI k = nI (g + (k - g)); congr 1; omega
                    have := go 0 (some (k - g)) (some (.int X[k]))
                    rw [← eo] at this
                    exact this
                  · rw [if_neg c5, if_neg (fun z => by have := z.2.2; simp at this; omega)]
                    exact go _ _ _
                · rw [if_neg c4, if_neg (fun z => by have := z.2.2; simp at this; omega)]
                  exact go _ _ _
              · rw [if_neg c3, if_neg (fun z => by have := z.2.1; rw [eh] at this; exact c3 (Option.some.inj this))]
                exact go _ _ _
            · rw [if_neg c2, if_neg (fun z => by have := z.2.1; rw [drop_head, List.getElem?_eq_none (by omega)] at this; cases this)]
              exact go _ _ _
          · rw [if_neg c1, if_neg (fun z => c1 z.1)]
            exact go _ _ _
      · rw [if_neg cq, if_neg cq]
        simp only [k_144_30, k_144_32, k_144_34, am_cat, am_kill, Value.category, List.map_cons, List.map_nil, List.sum_cons, List.sum_nil, Option.toList_some, Option.toList_none, List.cons_append, List.nil_append, List.length_cons, List.length_nil, List.getD_cons_succ, List.getD_cons_zero, List.set_cons_succ, List.set_cons_zero, Nat.reduceAdd, Nat.reduceLT, Nat.reduceLeDiff, Nat.zero_le, Nat.zero_add, Nat.add_zero]
        by_cases c92 : X[k] = 92
        · rw [if_pos c92, if_pos c92]
          simp only [k_144_37, k_144_40, k_144_135, k_144_138, hk1, nI_1, am_cat, am_kill, Value.category, List.map_cons, List.map_nil, List.sum_cons, List.sum_nil, Option.toList_some, Option.toList_none, List.cons_append, List.nil_append, List.length_cons, List.length_nil, List.getD_cons_succ, List.getD_cons_zero, List.set_cons_succ, List.set_cons_zero, Nat.reduceAdd, Nat.reduceLT, Nat.reduceLeDiff, Nat.zero_le, Nat.zero_add, Nat.add_zero]
          rw [ih (k + 1 + 1) q b _ (by omega) (by omega) (by omega)]
          by_cases c2 : k + 1 < X.length
          · rw [List.drop_eq_getElem_cons c2, show k + 1 + 1 - g = k - g + 1 + 1 by omega]
            exact Iff.rfl
          · rw [List.drop_eq_nil_of_le (show X.length ≤ k + 1 by omega), List.drop_eq_nil_of_le (show X.length ≤ k + 1 + 1 by omega)]
            exact Iff.rfl
        · rw [if_neg c92, if_neg c92]
          simp only [k_144_43, k_144_45, if_neg cq, k_144_48, k_144_50, k_144_52, am_cat, am_kill, Value.category, List.map_cons, List.map_nil, List.sum_cons, List.sum_nil, Option.toList_some, Option.toList_none, List.cons_append, List.nil_append, List.length_cons, List.length_nil, List.getD_cons_succ, List.getD_cons_zero, List.set_cons_succ, List.set_cons_zero, Nat.reduceAdd, Nat.reduceLT, Nat.reduceLeDiff, Nat.zero_le, Nat.zero_add, Nat.add_zero]
          by_cases ce : X[k] = q
          · rw [if_pos ce, if_pos ce]
            simp only [k_144_55, k_144_56, k_144_58, am_cat, am_kill, Value.category, List.map_cons, List.map_nil, List.sum_cons, List.sum_nil, Option.toList_some, Option.toList_none, List.cons_append, List.nil_append, List.length_cons, List.length_nil, List.getD_cons_succ, List.getD_cons_zero, List.set_cons_succ, List.set_cons_zero, Nat.reduceAdd, Nat.reduceLT, Nat.reduceLeDiff, Nat.zero_le, Nat.zero_add, Nat.add_zero]
            exact go _ _ _
          · rw [if_neg ce, if_neg ce]
            exact go _ _ _
    · have e1 : ¬ nI k < nI X.length := nI_nlt (by omega) (by omega)
      simp only [k_144_8, k_144_10, k_144_10N, k_144_14, k_144_141, k_144_142, k_144_11, ogw hP, fw_6 hP, n6, e1, if_false, am_cat, am_kill, Value.category, List.map_cons, List.map_nil, List.sum_cons, List.sum_nil, Option.toList_some, Option.toList_none, List.cons_append, List.nil_append, List.length_cons, List.length_nil, List.getD_cons_succ, List.getD_cons_zero, List.set_cons_succ, List.set_cons_zero, Nat.reduceAdd, Nat.reduceLT, Nat.reduceLeDiff, Nat.zero_le, Nat.zero_add, Nat.add_zero]
      rw [List.drop_eq_nil_of_le (by omega)]
      rfl
theorem sp_comma (hP : P.length = 135) {bl : Nat} {pre r : List Int32} (n0 : n 0 = nI W) (n6 : n 6 = nI X.length) (hX : X.length < 16800) (hW : W < 1000) (hl : bl < 1000) (hT : ∀ (j : Nat) (c : Int32), X[j]? = some c → Tx A j = c) (eX : X = pre ++ (rp bl ++ r)) : wp (d + 1) 144 0 [some (.ref 135), some (.int (nI pre.length)), some (.int (nI bl)), none, none, none, none] [] (wr P S n A) Q ↔ Q (some (.int (obI (pre.length + bl) (lc (okc W bl) r 0 0 false none)))) (wr P S n A) := by
  have hg : pre.length ≤ X.length := by rw [eX, List.length_append]; omega
  simp only [k_144_0, k_144_1, k_144_2, k_144_3, k_144_5, k_144_6, am_cat, am_kill, Value.category, List.map_cons, List.map_nil, List.sum_cons, List.sum_nil, Option.toList_some, Option.toList_none, List.cons_append, List.nil_append, List.length_cons, List.length_nil, List.getD_cons_succ, List.getD_cons_zero, List.set_cons_succ, List.set_cons_zero, Nat.reduceAdd, Nat.reduceLT, Nat.reduceLeDiff, Nat.zero_le, Nat.zero_add, Nat.add_zero]
  have := cm_loop (P := P) (S := S) (d := d) (Q := Q) (lead := bl) (g := pre.length) hP n0 n6 hX hW hl hT (X.length - pre.length) pre.length 0 none none (Nat.le_refl _) (Nat.le_refl _) (by omega)
  rw [Nat.sub_self, show X.drop pre.length = rp bl ++ r by rw [eX, List.drop_left], lc_line] at this
  refine this.trans ?_
  cases lc (okc W bl) r 0 0 false none with
  | none => exact Iff.rfl
  | some i =>
    show Q (some (.int (nI (pre.length + (i + bl))))) _ ↔ Q (some (.int (nI (pre.length + bl + i)))) _
    rw [show pre.length + (i + bl) = pre.length + bl + i by omega]
/-- the part behind the break moves on by m -/
theorem br_shift (hP : P.length = 135) {c m rest : Nat} {v1 v2 v3 v4 v5 : Option Value} (hb : c + 2 + m + rest < 16800) (ha : ∀ i, i < c + 2 + rest → asc (Tx A i)) : ∀ (j : Nat) (J : Int32) (B : Nat → Nat → Int32), J = nI j - 1 → j ≤ rest → (∀ x, x ≠ 5 → B x = A x) → (∀ i, Tx B i = if c + 2 + m + j ≤ i ∧ i < c + 2 + m + rest then Tx A (i - m) else Tx A i) → (∀ B' J', (∀ x, x ≠ 5 → B' x = A x) → (∀ i, Tx B' i = if c + 2 + m ≤ i ∧ i < c + 2 + m + rest then Tx A (i - m) else Tx A i) → wp (d + 1) 142 127 [some (.ref 135), v1, v2, v3, v4, v5, some (.int (nI c)), some (.int (nI rest)), some (.int (nI m)), some (.int J')] [] (wr P S n B') Q) → wp (d + 1) 142 91 [some (.ref 135), v1, v2, v3, v4, v5, some (.int (nI c)), some (.int (nI rest)), some (.int (nI m)), some (.int J)] [] (wr P S n B) Q := by
  have e2 : ∀ x : Nat, nI x + 2 = nI (x + 2) := fun x => nI_add x 2
  intro j
  induction j with
  | zero =>
    intro J B hJ hj b1 b2 K
    have e1 : J < 0 := by rw [hJ]; decide
    simp only [k_142_91, k_142_93, e1, if_true, am_cat, am_kill, Value.category, List.map_cons, List.map_nil, List.sum_cons, List.sum_nil, Option.toList_some, Option.toList_none, List.cons_append, List.nil_append, List.length_cons, List.length_nil, List.getD_cons_succ, List.getD_cons_zero, List.set_cons_succ, List.set_cons_zero, Nat.reduceAdd, Nat.reduceLT, Nat.reduceLeDiff, Nat.zero_le, Nat.zero_add, Nat.add_zero]
    exact K B J b1 b2
  | succ j ih =>
    intro J B hJ hj b1 b2 K
    rw [nI_pred] at hJ
    subst hJ
    have e1 : ¬ nI j < 0 := nI_pos (by omega)
    have eR : Byt (B 5 ((c + 2 + j) / 4)) ((c + 2 + j) % 4) = Tx A (c + 2 + j) := by
      have := b2 (c + 2 + j)
      rw [if_neg (by omega)] at this
      exact this
    simp only [k_142_91, k_142_93, k_142_96, k_142_96N, k_142_97, k_142_99, k_142_100, k_142_101, k_142_103, k_142_104, k_142_106, k_142_107, k_142_107N, k_142_108, k_142_110, k_142_111, k_142_112, k_142_114, k_142_115, e1, if_false, e2, nI_add, ovw hP, sp_textAt hP (show c + 2 + j < 16800 by omega), eR, am_cat, am_kill, Value.category, List.map_cons, List.map_nil, List.sum_cons, List.sum_nil, Option.toList_some, Option.toList_none, List.cons_append, List.nil_append, List.length_cons, List.length_nil, List.getD_cons_succ, List.getD_cons_zero, List.set_cons_succ, List.set_cons_zero, Nat.reduceAdd, Nat.reduceLT, Nat.reduceLeDiff, Nat.zero_le, Nat.zero_add, Nat.add_zero]
    simp only [k_142_118, ovw hP, sp_setText hP (show c + 2 + m + j < 16800 by omega), am_cat, am_kill, Value.category, List.map_cons, List.map_nil, List.sum_cons, List.sum_nil, Option.toList_some, Option.toList_none, List.cons_append, List.nil_append, List.length_cons, List.length_nil, List.getD_cons_succ, List.getD_cons_zero, List.set_cons_succ, List.set_cons_zero, Nat.reduceAdd, Nat.reduceLT, Nat.reduceLeDiff, Nat.zero_le, Nat.zero_add, Nat.add_zero]
    simp only [k_142_121, k_142_124, am_cat, am_kill, Value.category, List.map_cons, List.map_nil, List.sum_cons, List.sum_nil, Option.toList_some, Option.toList_none, List.cons_append, List.nil_append, List.length_cons, List.length_nil, List.getD_cons_succ, List.getD_cons_zero, List.set_cons_succ, List.set_cons_zero, Nat.reduceAdd, Nat.reduceLT, Nat.reduceLeDiff, Nat.zero_le, Nat.zero_add, Nat.add_zero]
    refine ih _ _ (by rw [Int32.sub_eq_add_neg]) (by omega) (fun x hx => by rw [uA_r hx]; exact b1 x hx) (fun i => ?_) K
    rw [Tx_set (ha _ (by omega))]
    by_cases ci : i = c + 2 + m + j
    · rw [if_pos ci, if_pos (by omega), ci]
      congr 1
      omega
    · rw [if_neg ci, b2 i]
      by_cases c3 : c + 2 + m + (j + 1) ≤ i ∧ i < c + 2 + m + rest
      · rw [if_pos c3, if_pos (by omega)]
      · rw [if_neg c3, if_neg (by omega)]
theorem br_blank (hP : P.length = 135) {c m : Nat} {v1 v2 v3 v4 v5 v7 : Option Value} (hb : c + 2 + m < 16800) : ∀ (j i : Nat) (B : Nat → Nat → Int32), i + j = m → (∀ x, x ≠ 5 → B x = A x) → (∀ q, Tx B q = if c + 2 ≤ q ∧ q < c + 2 + i then 32 else Tx A q) → (∀ B' J', (∀ x, x ≠ 5 → B' x = A x) → (∀ q, Tx B' q = if c + 2 ≤ q ∧ q < c + 2 + m then 32 else Tx A q) → wp (d + 1) 142 156 [some (.ref 135), v1, v2, v3, v4, v5, some (.int (nI c)), v7, some (.int (nI m)), some (.int J')] [] (wr P S n B') Q) → wp (d + 1) 142 130 [some (.ref 135), v1, v2, v3, v4, v5, some (.int (nI c)), v7, some (.int (nI m)), some (.int (nI i))] [] (wr P S n B) Q := by
  have e2 : ∀ x : Nat, nI x + 2 = nI (x + 2) := fun x => nI_add x 2
  intro j
  induction j with
  | zero =>
    intro i B hi b1 b2 K
    obtain rfl : i = m := by omega
    have e1 : ¬ nI i < nI i := nI_nlt (Nat.le_refl _) (by omega)
    simp only [k_142_130, k_142_132, k_142_134, e1, if_false, am_cat, am_kill, Value.category, List.map_cons, List.map_nil, List.sum_cons, List.sum_nil, Option.toList_some, Option.toList_none, List.cons_append, List.nil_append, List.length_cons, List.length_nil, List.getD_cons_succ, List.getD_cons_zero, List.set_cons_succ, List.set_cons_zero, Nat.reduceAdd, Nat.reduceLT, Nat.reduceLeDiff, Nat.zero_le, Nat.zero_add, Nat.add_zero]
    exact K B _ b1 b2
  | succ j ih =>
    intro i B hi b1 b2 K
    have e1 : nI i < nI m := nI_lt (by omega) (by omega)
    simp only [k_142_130, k_142_132, k_142_134, k_142_137, k_142_137N, k_142_138, k_142_140, k_142_141, k_142_142, k_142_144, k_142_145, k_142_147, e1, if_true, e2, nI_add, ovw hP, sp_setText hP (show c + 2 + i < 16800 by omega), am_cat, am_kill, Value.category, List.map_cons, List.map_nil, List.sum_cons, List.sum_nil, Option.toList_some, Option.toList_none, List.cons_append, List.nil_append, List.length_cons, List.length_nil, List.getD_cons_succ, List.getD_cons_zero, List.set_cons_succ, List.set_cons_zero, Nat.reduceAdd, Nat.reduceLT, Nat.reduceLeDiff, Nat.zero_le, Nat.zero_add, Nat.add_zero]
    simp only [k_142_150, k_142_153, nI_1, am_cat, am_kill, Value.category, List.map_cons, List.map_nil, List.sum_cons, List.sum_nil, Option.toList_some, Option.toList_none, List.cons_append, List.nil_append, List.length_cons, List.length_nil, List.getD_cons_succ, List.getD_cons_zero, List.set_cons_succ, List.set_cons_zero, Nat.reduceAdd, Nat.reduceLT, Nat.reduceLeDiff, Nat.zero_le, Nat.zero_add, Nat.add_zero]
    refine ih (i + 1) _ (by omega) (fun x hx => by rw [uA_r hx]; exact b1 x hx) (fun q => ?_) K
    rw [Tx_set ⟨by decide, by decide⟩]
    by_cases cq : q = c + 2 + i
    · rw [if_pos cq, if_pos (by omega)]
    · rw [if_neg cq, b2 q]
      by_cases c3 : c + 2 ≤ q ∧ q < c + 2 + i
      · rw [if_pos c3, if_pos (by omega)]
      · rw [if_neg c3, if_neg (by omega)]
end MBR
