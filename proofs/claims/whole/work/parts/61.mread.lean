/-! THE REFERENCE READS TYPES -/
def Ln (n : Nat → Int32) (A : Nat → Nat → Int32) (L : List Int32) : Prop := n 1 = nI L.length ∧ L.length ≤ 40 ∧ (∀ (j : Nat) (c : Int32), L[j]? = some c → A 0 j = c) ∧ ∀ c ∈ L, asc c
theorem sp_plain {d : Nat} {c : Int32} {h : AH} {o : Option Value} {Q : Option Value → AH → Prop} : wp d 98 0 [o, some (.int c)] [] h Q ↔ Q (some (.int (if c ∈ sgl then 1 else 0))) h := by
  have hm : c ∈ sgl ↔ c = 90 ∨ c = 66 ∨ c = 67 ∨ c = 83 ∨ c = 73 ∨ c = 74 ∨ c = 70 ∨ c = 68 ∨ c = 84 := by simp [sgl]
  simp only [k_98_0, k_98_1, k_98_3, k_98_6, k_98_7, k_98_9, k_98_12, k_98_13, k_98_15, k_98_18, k_98_19, k_98_21, k_98_24, k_98_25, k_98_27, k_98_30, k_98_31, k_98_33, k_98_36, k_98_37, k_98_39, k_98_42, k_98_43, k_98_45, k_98_48, k_98_49, k_98_51, k_98_54, k_98_55, k_98_58, k_98_59, nb0, nb1, fb0, fb1, am_cat, am_kill, Value.category, List.map_cons, List.map_nil, List.sum_cons, List.sum_nil, Option.toList_some, Option.toList_none, List.cons_append, List.nil_append, List.length_cons, List.length_nil, List.getD_cons_succ, List.getD_cons_zero, List.set_cons_succ, List.set_cons_zero, Nat.reduceAdd, Nat.reduceLT, Nat.reduceLeDiff, Nat.zero_le, Nat.zero_add, Nat.add_zero]
  by_cases h0 : c = 90
  · rw [if_pos h0, if_pos (hm.mpr (Or.inl h0))]
  rw [if_neg h0]
  by_cases h1 : c = 66
  · rw [if_pos h1, if_pos (hm.mpr (Or.inr (Or.inl h1)))]
  rw [if_neg h1]
  by_cases h2 : c = 67
  · rw [if_pos h2, if_pos (hm.mpr (Or.inr (Or.inr (Or.inl h2))))]
  rw [if_neg h2]
  by_cases h3 : c = 83
  · rw [if_pos h3, if_pos (hm.mpr (Or.inr (Or.inr (Or.inr (Or.inl h3)))))]
  rw [if_neg h3]
  by_cases h4 : c = 73
  · rw [if_pos h4, if_pos (hm.mpr (Or.inr (Or.inr (Or.inr (Or.inr (Or.inl h4))))))]
  rw [if_neg h4]
  by_cases h5 : c = 74
  · rw [if_pos h5, if_pos (hm.mpr (Or.inr (Or.inr (Or.inr (Or.inr (Or.inr (Or.inl h5)))))))]
  rw [if_neg h5]
  by_cases h6 : c = 70
  · rw [if_pos h6, if_pos (hm.mpr (Or.inr (Or.inr (Or.inr (Or.inr (Or.inr (Or.inr (Or.inl h6))))))))]
  rw [if_neg h6]
  by_cases h7 : c = 68
  · rw [if_pos h7, if_pos (hm.mpr (Or.inr (Or.inr (Or.inr (Or.inr (Or.inr (Or.inr (Or.inr (Or.inl h7)))))))))]
  rw [if_neg h7]
  by_cases h8 : c = 84
  · rw [if_pos h8, if_pos (hm.mpr (Or.inr (Or.inr (Or.inr (Or.inr (Or.inr (Or.inr (Or.inr (Or.inr (h8))))))))))]
  rw [if_neg h8]
  rw [if_neg (fun z => by rcases hm.mp z with q | q | q | q | q | q | q | q | q <;> contradiction)]
theorem dig_ok {k : Int32} (hk : asc k) : (¬ k - 48 < 0 ∧ k - 48 < 4) ↔ (¬ k < 48 ∧ ¬ 51 < k) := by
  obtain ⟨n, hn, rfl⟩ := nI_of (x := k) (by rw [Int32.lt_iff_toInt_lt]; have := hk.1; show ¬ _ < (0 : Int32).toInt; rw [Int32.toInt_zero]; omega)
  have h2 := hk.2
  rw [nI_toInt hn] at h2
  have key : ∀ n, n < 128 → ((¬ nI n - 48 < 0 ∧ nI n - 48 < 4) ↔ (¬ nI n < 48 ∧ ¬ 51 < nI n)) := by decide +kernel
  exact key n (by omega)
def cntT : Nat → List Int32 → Option Nat
  | 0, l => if l = [] then some 0 else none
  | f + 1, l => if l = [] then some 0 else match rdTy l with
    | none => none
    | some q => match cntT f (l.drop q.2) with
      | none => none
      | some c => some (c + 1)
theorem cnt_row : ∀ (f k : Nat) (l : List Int32), l.length ≤ f → match rdRow k l with
    | some r => cntT f l = some r.length ∧ r.length ≤ k
    | none => cntT f l = none ∨ ∃ c, cntT f l = some c ∧ k < c := by
  intro f
  induction f with
  | zero =>
    intro k l hl
    have e : l = [] := List.length_eq_zero_iff.mp (by omega)
    subst e
    cases k <;> exact ⟨rfl, Nat.zero_le _⟩
  | succ f ih =>
    intro k l hl
    by_cases e : l = []
    · subst e
      cases k <;> exact ⟨rfl, Nat.zero_le _⟩
    · have ec : cntT (f + 1) l = match rdTy l with
        | none => none
        | some q => match cntT f (l.drop q.2) with
          | none => none
          | some c => some (c + 1) := by
        show (if l = [] then some 0 else _) = _
        rw [if_neg e]
      cases k with
      | zero =>
        have er : rdRow 0 l = none := by
          show (if l = [] then some [] else none) = none
          rw [if_neg e]
        rw [er, ec]
        cases hr : rdTy l with
        | none => exact Or.inl rfl
        | some q =>
          dsimp only
          cases hc : cntT f (l.drop q.2) with
          | none => exact Or.inl rfl
          | some c => exact Or.inr ⟨c + 1, rfl, by omega⟩
      | succ k =>
        have er : rdRow (k + 1) l = match rdTy l with
          | none => none
          | some q => match rdRow k (l.drop q.2) with
            | none => none
            | some r => some (q.1 :: r) := by
          show (if l = [] then some [] else _) = _
          rw [if_neg e]
          rfl
        rw [er, ec]
        cases hr : rdTy l with
        | none => exact Or.inl rfl
        | some q =>
          dsimp only
          obtain ⟨q1, q2, q3, q4⟩ := rdTy_spl hr
          have := ih k (l.drop q.2) (by rw [List.length_drop]; omega)
          cases hrr : rdRow k (l.drop q.2) with
          | none =>
            rw [hrr] at this
            dsimp only at this ⊢
            rcases this with z | ⟨c, z, hc⟩
            · rw [z]
              exact Or.inl rfl
            · rw [z]
              exact Or.inr ⟨c + 1, rfl, by omega⟩
          | some r =>
            rw [hrr] at this
            dsimp only at this ⊢
            rw [this.1]
            exact ⟨rfl, by rw [List.length_cons]; omega⟩
section MRD
variable {P S : AH} {n : Nat → Int32} {A : Nat → Nat → Int32} {d : Nat} {L : List Int32} {Q : Option Value → AH → Prop}
theorem te_loop (hP : P.length = 135) {f : Int32} (X : Ln n A L) : ∀ (k i : Nat), i + k = L.length → (wp d 97 2 [some (.ref 135), some (.int f), some (.int (nI i))] [] (wr P S n A) Q ↔ wp d 97 27 [some (.ref 135), some (.int f), some (.int (nI (i + lbr (L.drop i))))] [] (wr P S n A) Q) := by
  obtain ⟨x1, x2, x3, x4⟩ := X
  intro k
  induction k with
  | zero =>
    intro i hi
    have e1 : ¬ nI i < nI L.length := nI_nlt (by omega) (by omega)
    simp only [k_97_2, k_97_3, k_97_3N, k_97_7, k_97_4, ogw hP, fw_1 hP, x1, e1, if_false, am_cat, am_kill, Value.category, List.map_cons, List.map_nil, List.sum_cons, List.sum_nil, Option.toList_some, Option.toList_none, List.cons_append, List.nil_append, List.length_cons, List.length_nil, List.getD_cons_succ, List.getD_cons_zero, List.set_cons_succ, List.set_cons_zero, Nat.reduceAdd, Nat.reduceLT, Nat.reduceLeDiff, Nat.zero_le, Nat.zero_add, Nat.add_zero]
    rw [List.drop_eq_nil_of_le (by omega)]
    exact Iff.rfl
  | succ k ih =>
    intro i hi
    have hil : i < L.length := by omega
    have e1 : nI i < nI L.length := nI_lt (by omega) (by omega)
    simp only [k_97_2, k_97_3, k_97_3N, k_97_7, k_97_10, k_97_10N, k_97_14, k_97_4, k_97_11, ogw hP, fw_1 hP, fw_10 hP, x1, e1, if_true, am_cat, am_kill, Value.category, List.map_cons, List.map_nil, List.sum_cons, List.sum_nil, Option.toList_some, Option.toList_none, List.cons_append, List.nil_append, List.length_cons, List.length_nil, List.getD_cons_succ, List.getD_cons_zero, List.set_cons_succ, List.set_cons_zero, Nat.reduceAdd, Nat.reduceLT, Nat.reduceLeDiff, Nat.zero_le, Nat.zero_add, Nat.add_zero]
    rw [k_97_15 (ow_0 hP (by omega)), aw_0 hP (by omega), x3 i L[i] (by simp [hil])]
    rw [List.drop_eq_getElem_cons hil]
    unfold lbr
    by_cases c : L[i] = 91
    · simp only [k_97_16, k_97_18, k_97_21, k_97_24, c, if_true, nI_1, am_cat, am_kill, Value.category, List.map_cons, List.map_nil, List.sum_cons, List.sum_nil, Option.toList_some, Option.toList_none, List.cons_append, List.nil_append, List.length_cons, List.length_nil, List.getD_cons_succ, List.getD_cons_zero, List.set_cons_succ, List.set_cons_zero, Nat.reduceAdd, Nat.reduceLT, Nat.reduceLeDiff, Nat.zero_le, Nat.zero_add, Nat.add_zero]
      rw [ih (i + 1) (by omega), show i + 1 + lbr (L.drop (i + 1)) = i + (lbr (L.drop (i + 1)) + 1) by omega]
    · simp only [k_97_16, k_97_18, c, if_false, Nat.add_zero]
def teV (L : List Int32) (p : Nat) : Int32 := match rdTy (L.drop p) with
  | none => -1
  | some q => nI (p + q.2)
theorem sp_typeEnd (hP : P.length = 135) {p : Nat} (X : Ln n A L) (hp : p ≤ L.length) : wp (d + 1) 97 0 [some (.ref 135), some (.int (nI p)), none] [] (wr P S n A) Q ↔ Q (some (.int (teV L p))) (wr P S n A) := by
  obtain ⟨x1, x2, x3, x4⟩ := id X
  have z1 : ((1 : Int32) = 0) ↔ False := by decide
  have z0 : ((0 : Int32) = 0) ↔ True := by decide
  have hb := lbr_le (L.drop p)
  rw [List.length_drop] at hb
  simp only [k_97_0, k_97_1, am_cat, am_kill, Value.category, List.map_cons, List.map_nil, List.sum_cons, List.sum_nil, Option.toList_some, Option.toList_none, List.cons_append, List.nil_append, List.length_cons, List.length_nil, List.getD_cons_succ, List.getD_cons_zero, List.set_cons_succ, List.set_cons_zero, Nat.reduceAdd, Nat.reduceLT, Nat.reduceLeDiff, Nat.zero_le, Nat.zero_add, Nat.add_zero]
  rw [te_loop hP X (L.length - p) p (by omega)]
  unfold teV rdTy
  generalize hB : lbr (L.drop p) = b at hb
  rw [List.drop_drop]
  have e1 : nI (p + b) - nI p = nI b := by rw [nI_sub2 (by omega)]; congr 1; omega
  have e3 : ((3 : Int32) < nI b) ↔ 3 < b := nI_ltI (a := 3) (by omega) (by omega)
  have e4 : (nI (p + b) < nI L.length) ↔ p + b < L.length := nI_ltI (by omega) (by omega)
  have e5 : (nI (p + b + 1) < nI L.length) ↔ p + b + 1 < L.length := nI_ltI (by omega) (by omega)
  simp only [k_97_27, k_97_28, k_97_29, k_97_30, k_97_31, k_97_34, k_97_35, k_97_35N, k_97_39, k_97_36, ogw hP, fw_1 hP, x1, e1, e3, e4, am_cat, am_kill, Value.category, List.map_cons, List.map_nil, List.sum_cons, List.sum_nil, Option.toList_some, Option.toList_none, List.cons_append, List.nil_append, List.length_cons, List.length_nil, List.getD_cons_succ, List.getD_cons_zero, List.set_cons_succ, List.set_cons_zero, Nat.reduceAdd, Nat.reduceLT, Nat.reduceLeDiff, Nat.zero_le, Nat.zero_add, Nat.add_zero]
  by_cases c1 : 3 < b
  · simp only [c1, if_true, k_97_42, k_97_43]
  by_cases c2 : p + b < L.length
  · simp only [c1, c2, if_true, if_false, k_97_44, k_97_44N, k_97_48, k_97_45, ogw hP, fw_10 hP, am_cat, am_kill, Value.category, List.map_cons, List.map_nil, List.sum_cons, List.sum_nil, Option.toList_some, Option.toList_none, List.cons_append, List.nil_append, List.length_cons, List.length_nil, List.getD_cons_succ, List.getD_cons_zero, List.set_cons_succ, List.set_cons_zero, Nat.reduceAdd, Nat.reduceLT, Nat.reduceLeDiff, Nat.zero_le, Nat.zero_add, Nat.add_zero]
    rw [k_97_49 (ow_0 hP (by omega)), aw_0 hP (by omega), x3 (p + b) L[p + b] (by simp [c2]), List.drop_eq_getElem_cons c2]
    dsimp only
    by_cases c3 : L[p + b] = 79
    · simp only [k_97_50, k_97_52, k_97_55, k_97_56, k_97_57, k_97_58, k_97_58N, k_97_62, k_97_59, c3, if_true, ogw hP, fw_1 hP, x1, nI_1, e5, am_cat, am_kill, Value.category, List.map_cons, List.map_nil, List.sum_cons, List.sum_nil, Option.toList_some, Option.toList_none, List.cons_append, List.nil_append, List.length_cons, List.length_nil, List.getD_cons_succ, List.getD_cons_zero, List.set_cons_succ, List.set_cons_zero, Nat.reduceAdd, Nat.reduceLT, Nat.reduceLeDiff, Nat.zero_le, Nat.zero_add, Nat.add_zero]
      by_cases c4 : p + b + 1 < L.length
      · have hk : asc L[p + b + 1] := x4 _ (List.getElem_mem c4)
        rw [List.drop_eq_getElem_cons c4]
        simp only [c4, if_true, k_97_65, k_97_65N, k_97_69, k_97_70, k_97_71, k_97_66, ogw hP, fw_10 hP, nI_1, am_cat, am_kill, Value.category, List.map_cons, List.map_nil, List.sum_cons, List.sum_nil, Option.toList_some, Option.toList_none, List.cons_append, List.nil_append, List.length_cons, List.length_nil, List.getD_cons_succ, List.getD_cons_zero, List.set_cons_succ, List.set_cons_zero, Nat.reduceAdd, Nat.reduceLT, Nat.reduceLeDiff, Nat.zero_le, Nat.zero_add, Nat.add_zero]
        rw [k_97_72 (ow_0 hP (by omega)), aw_0 hP (by omega), x3 (p + b + 1) L[p + b + 1] (by simp [c4])]
        have dk := dig_ok hk
        by_cases d1 : L[p + b + 1] < 48
        · rw [if_neg (fun z => (dk.mp z).1 d1)]
          simp only [k_97_73, k_97_75, k_97_97, k_97_98, d1, if_true]
        · simp only [k_97_73, k_97_75, k_97_78, k_97_78N, k_97_82, k_97_83, k_97_84, k_97_79, d1, if_false, ogw hP, fw_10 hP, nI_1, am_cat, am_kill, Value.category, List.map_cons, List.map_nil, List.sum_cons, List.sum_nil, Option.toList_some, Option.toList_none, List.cons_append, List.nil_append, List.length_cons, List.length_nil, List.getD_cons_succ, List.getD_cons_zero, List.set_cons_succ, List.set_cons_zero, Nat.reduceAdd, Nat.reduceLT, Nat.reduceLeDiff, Nat.zero_le, Nat.zero_add, Nat.add_zero]
          rw [k_97_85 (ow_0 hP (by omega)), aw_0 hP (by omega), x3 (p + b + 1) L[p + b + 1] (by simp [c4])]
          by_cases d2 : 51 < L[p + b + 1]
          · rw [if_neg (fun z => (dk.mp z).2 d2)]
            simp only [k_97_86, k_97_88, k_97_97, k_97_98, d2, if_true]
          · rw [if_pos (dk.mpr ⟨d1, d2⟩)]
            have e6 : nI (p + b) + 2 = nI (p + (b + 2)) := by rw [show (2 : Int32) = nI 2 from rfl, nI_add, Nat.add_assoc]
            simp only [k_97_86, k_97_88, k_97_91, k_97_92, k_97_93, k_97_94, k_97_98, d2, if_false, e6, am_cat, am_kill, Value.category, List.map_cons, List.map_nil, List.sum_cons, List.sum_nil, Option.toList_some, Option.toList_none, List.cons_append, List.nil_append, List.length_cons, List.length_nil, List.getD_cons_succ, List.getD_cons_zero, List.set_cons_succ, List.set_cons_zero, Nat.reduceAdd, Nat.reduceLT, Nat.reduceLeDiff, Nat.zero_le, Nat.zero_add, Nat.add_zero]
      · rw [List.drop_eq_nil_of_le (by omega)]
        simp only [c4, if_false, k_97_97, k_97_98]
    · simp only [k_97_50, k_97_52, k_97_99, k_97_99N, k_97_100, k_97_100N, k_97_104, k_97_101, c3, if_false, ogw hP, fw_10 hP, am_cat, am_kill, Value.category, List.map_cons, List.map_nil, List.sum_cons, List.sum_nil, Option.toList_some, Option.toList_none, List.cons_append, List.nil_append, List.length_cons, List.length_nil, List.getD_cons_succ, List.getD_cons_zero, List.set_cons_succ, List.set_cons_zero, Nat.reduceAdd, Nat.reduceLT, Nat.reduceLeDiff, Nat.zero_le, Nat.zero_add, Nat.add_zero]
      rw [k_97_105 (ow_0 hP (by omega)), aw_0 hP (by omega), x3 (p + b) L[p + b] (by simp [c2])]
      simp only [k_97_106, ovw hP, sp_plain, am_cat, am_kill, Value.category, List.map_cons, List.map_nil, List.sum_cons, List.sum_nil, Option.toList_some, Option.toList_none, List.cons_append, List.nil_append, List.length_cons, List.length_nil, List.getD_cons_succ, List.getD_cons_zero, List.set_cons_succ, List.set_cons_zero, Nat.reduceAdd, Nat.reduceLT, Nat.reduceLeDiff, Nat.zero_le, Nat.zero_add, Nat.add_zero]
      by_cases c5 : L[p + b] ∈ sgl
      · have e6 : nI (p + b) + 1 = nI (p + (b + 1)) := nI_1 _
        simp only [c5, if_true, k_97_109, k_97_112, k_97_113, k_97_114, k_97_115, k_97_119, z1, if_false, e6, am_cat, am_kill, Value.category, List.map_cons, List.map_nil, List.sum_cons, List.sum_nil, Option.toList_some, Option.toList_none, List.cons_append, List.nil_append, List.length_cons, List.length_nil, List.getD_cons_succ, List.getD_cons_zero, List.set_cons_succ, List.set_cons_zero, Nat.reduceAdd, Nat.reduceLT, Nat.reduceLeDiff, Nat.zero_le, Nat.zero_add, Nat.add_zero]
      · simp only [c5, if_false, k_97_109, k_97_118, k_97_119, z0, if_true, am_cat, am_kill, Value.category, List.map_cons, List.map_nil, List.sum_cons, List.sum_nil, Option.toList_some, Option.toList_none, List.cons_append, List.nil_append, List.length_cons, List.length_nil, List.getD_cons_succ, List.getD_cons_zero, List.set_cons_succ, List.set_cons_zero, Nat.reduceAdd, Nat.reduceLT, Nat.reduceLeDiff, Nat.zero_le, Nat.zero_add, Nat.add_zero]
  · rw [List.drop_eq_nil_of_le (by omega)]
    simp only [c1, c2, if_false, k_97_42, k_97_43]
theorem tr_loop (hP : P.length = 135) {r : Int32} (X : Ln n A L) : ∀ (f p m : Nat), L.length - p ≤ f → p ≤ L.length → m + f ≤ 1000 → (match cntT f (L.drop p) with
    | none => ∀ m', wp (d + 2) 96 28 [some (.ref 135), some (.int r), some (.int m'), some (.int (-1)), none, none] [] (wr P S n A) Q
    | some c => wp (d + 2) 96 28 [some (.ref 135), some (.int r), some (.int (nI (m + c))), some (.int (nI L.length)), none, none] [] (wr P S n A) Q) → wp (d + 2) 96 4 [some (.ref 135), some (.int r), some (.int (nI m)), some (.int (nI p)), none, none] [] (wr P S n A) Q := by
  obtain ⟨x1, x2, x3, x4⟩ := id X
  intro f
  induction f with
  | zero =>
    intro p m hf hp hm K
    obtain rfl : p = L.length := by omega
    have e0 : ¬ nI L.length < 0 := nI_pos (by omega)
    have e1 : ¬ nI L.length < nI L.length := nI_nlt (Nat.le_refl _) (by omega)
    simp only [k_96_4, k_96_5, k_96_8, k_96_9, k_96_9N, k_96_13, k_96_10, ogw hP, fw_1 hP, x1, e0, e1, if_false, am_cat, am_kill, Value.category, List.map_cons, List.map_nil, List.sum_cons, List.sum_nil, Option.toList_some, Option.toList_none, List.cons_append, List.nil_append, List.length_cons, List.length_nil, List.getD_cons_succ, List.getD_cons_zero, List.set_cons_succ, List.set_cons_zero, Nat.reduceAdd, Nat.reduceLT, Nat.reduceLeDiff, Nat.zero_le, Nat.zero_add, Nat.add_zero]
    rw [List.drop_eq_nil_of_le (Nat.le_refl _)] at K
    exact K
  | succ f ih =>
    intro p m hf hp hm K
    have e0 : ¬ nI p < 0 := nI_pos (by omega)
    by_cases c : p < L.length
    · have e1 : nI p < nI L.length := nI_lt c (by omega)
      have hne : L.drop p ≠ [] := fun q => by rw [List.drop_eq_nil_iff] at q; omega
      simp only [k_96_4, k_96_5, k_96_8, k_96_9, k_96_9N, k_96_13, k_96_16, k_96_16N, k_96_17, k_96_10, k_96_18, ogw hP, fw_1 hP, ovw hP, x1, e0, e1, if_true, if_false, sp_typeEnd hP X hp, am_cat, am_kill, Value.category, List.map_cons, List.map_nil, List.sum_cons, List.sum_nil, Option.toList_some, Option.toList_none, List.cons_append, List.nil_append, List.length_cons, List.length_nil, List.getD_cons_succ, List.getD_cons_zero, List.set_cons_succ, List.set_cons_zero, Nat.reduceAdd, Nat.reduceLT, Nat.reduceLeDiff, Nat.zero_le, Nat.zero_add, Nat.add_zero]
      simp only [k_96_21, k_96_22, k_96_25, nI_1, am_cat, am_kill, Value.category, List.map_cons, List.map_nil, List.sum_cons, List.sum_nil, Option.toList_some, Option.toList_none, List.cons_append, List.nil_append, List.length_cons, List.length_nil, List.getD_cons_succ, List.getD_cons_zero, List.set_cons_succ, List.set_cons_zero, Nat.reduceAdd, Nat.reduceLT, Nat.reduceLeDiff, Nat.zero_le, Nat.zero_add, Nat.add_zero]
      have ec : cntT (f + 1) (L.drop p) = match rdTy (L.drop p) with
        | none => none
        | some q => match cntT f ((L.drop p).drop q.2) with
          | none => none
          | some c => some (c + 1) := by
        show (if L.drop p = [] then some 0 else _) = _
        rw [if_neg hne]
      rw [ec] at K
      unfold teV
      cases hr : rdTy (L.drop p) with
      | none =>
        rw [hr] at K
        dsimp only at K ⊢
        have en : (-1 : Int32) < 0 := by decide
        simp only [k_96_4, k_96_5, en, if_true, am_cat, am_kill, Value.category, List.map_cons, List.map_nil, List.sum_cons, List.sum_nil, Option.toList_some, Option.toList_none, List.cons_append, List.nil_append, List.length_cons, List.length_nil, List.getD_cons_succ, List.getD_cons_zero, List.set_cons_succ, List.set_cons_zero, Nat.reduceAdd, Nat.reduceLT, Nat.reduceLeDiff, Nat.zero_le, Nat.zero_add, Nat.add_zero]
        exact K _
      | some q =>
        obtain ⟨q1, q2, q3, q4⟩ := rdTy_spl hr
        rw [List.length_drop] at q3
        rw [hr] at K
        dsimp only at K ⊢
        refine ih (p + q.2) (m + 1) (by omega) (by omega) (by omega) ?_
        rw [← List.drop_drop]
        cases hc : cntT f ((L.drop p).drop q.2) with
        | none => rw [hc] at K; exact K
        | some c =>
          rw [hc] at K
          dsimp only at K ⊢
          rw [show m + 1 + c = m + (c + 1) by omega]
          exact K
    · obtain rfl : p = L.length := by omega
      have e1 : ¬ nI L.length < nI L.length := nI_nlt (Nat.le_refl _) (by omega)
      simp only [k_96_4, k_96_5, k_96_8, k_96_9, k_96_9N, k_96_13, k_96_10, ogw hP, fw_1 hP, x1, e0, e1, if_false, am_cat, am_kill, Value.category, List.map_cons, List.map_nil, List.sum_cons, List.sum_nil, Option.toList_some, Option.toList_none, List.cons_append, List.nil_append, List.length_cons, List.length_nil, List.getD_cons_succ, List.getD_cons_zero, List.set_cons_succ, List.set_cons_zero, Nat.reduceAdd, Nat.reduceLT, Nat.reduceLeDiff, Nat.zero_le, Nat.zero_add, Nat.add_zero]
      rw [List.drop_eq_nil_of_le (Nat.le_refl _)] at K
      exact K
theorem tr_copy (hP : P.length = 135) {r : Nat} {v2 v3 : Int32} (hr : r < 5) (hl : L.length ≤ 40) (x3 : ∀ (j : Nat) (c : Int32), L[j]? = some c → A 0 j = c) (x4 : ∀ c ∈ L, asc c) : ∀ (j i : Nat) (B : Nat → Nat → Int32), i + j = L.length → (∀ x, x ≠ 1 → B x = A x) → (∀ q, (q < r * 40 ∨ r * 40 + 40 ≤ q) → B 1 q = A 1 q) → (∀ q c, q < i → L[q]? = some c → B 1 (r * 40 + q) = c) → (∀ B', (∀ x, x ≠ 1 → B' x = A x) → (∀ q, (q < r * 40 ∨ r * 40 + 40 ≤ q) → B' 1 q = A 1 q) → (∀ q c, L[q]? = some c → B' 1 (r * 40 + q) = c) → wp d 96 86 [some (.ref 135), some (.int (nI r)), some (.int v2), some (.int v3), some (.int (nI L.length)), some (.int (nI L.length))] [] (wr P S n B') Q) → wp d 96 54 [some (.ref 135), some (.int (nI r)), some (.int v2), some (.int v3), some (.int (nI L.length)), some (.int (nI i))] [] (wr P S n B) Q := by
  have hs : sN ≤ 137 := by decide
  have e40 : nI r * 40 = nI (r * 40) := nI_mul r 40
  intro j
  induction j with
  | zero =>
    intro i B hi b1 b2 b3 K
    obtain rfl : i = L.length := by omega
    have e1 : ¬ nI L.length < nI L.length := nI_nlt (Nat.le_refl _) (by omega)
    simp only [k_96_54, k_96_56, k_96_58, e1, if_false, am_cat, am_kill, Value.category, List.map_cons, List.map_nil, List.sum_cons, List.sum_nil, Option.toList_some, Option.toList_none, List.cons_append, List.nil_append, List.length_cons, List.length_nil, List.getD_cons_succ, List.getD_cons_zero, List.set_cons_succ, List.set_cons_zero, Nat.reduceAdd, Nat.reduceLT, Nat.reduceLeDiff, Nat.zero_le, Nat.zero_add, Nat.add_zero]
    exact K B b1 b2 (fun q c hq => b3 q c (List.getElem?_eq_some_iff.mp hq).1 hq)
  | succ j ih =>
    intro i B hi b1 b2 b3 K
    have hil : i < L.length := by omega
    have e1 : nI i < nI L.length := nI_lt (by omega) (by omega)
    have hch := asc_chr (x4 _ (List.getElem_mem hil))
    simp only [k_96_54, k_96_56, k_96_58, k_96_61, k_96_61N, k_96_65, k_96_66, k_96_68, k_96_69, k_96_71, k_96_72, k_96_72N, k_96_76, k_96_62, k_96_73, e1, if_true, ogw hP, fw_11 hP, fw_10 hP, e40, nI_add, am_cat, am_kill, Value.category, List.map_cons, List.map_nil, List.sum_cons, List.sum_nil, Option.toList_some, Option.toList_none, List.cons_append, List.nil_append, List.length_cons, List.length_nil, List.getD_cons_succ, List.getD_cons_zero, List.set_cons_succ, List.set_cons_zero, Nat.reduceAdd, Nat.reduceLT, Nat.reduceLeDiff, Nat.zero_le, Nat.zero_add, Nat.add_zero]
    rw [k_96_78 (ow_0 hP (by omega)), aw_0 hP (by omega), b1 0 (by decide), x3 i L[i] (by simp [hil]), k_96_79 (ow_1 hP (by omega)) hs, nar_chr hch, sw_1 hP (by omega)]
    simp only [k_96_80, k_96_83, nI_1, am_cat, am_kill, Value.category, List.map_cons, List.map_nil, List.sum_cons, List.sum_nil, Option.toList_some, Option.toList_none, List.cons_append, List.nil_append, List.length_cons, List.length_nil, List.getD_cons_succ, List.getD_cons_zero, List.set_cons_succ, List.set_cons_zero, Nat.reduceAdd, Nat.reduceLT, Nat.reduceLeDiff, Nat.zero_le, Nat.zero_add, Nat.add_zero]
    refine ih (i + 1) _ (by omega) (fun x hx => by rw [uA_r hx]; exact b1 x hx) (fun q hq => by rw [uA_m (by omega)]; exact b2 q hq) (fun q c hq hqc => ?_) K
    by_cases c2 : q = i
    · subst c2
      rw [uA_s]
      rw [List.getElem?_eq_getElem hil] at hqc
      exact Option.some.inj hqc
    · rw [uA_m (by omega)]
      exact b3 q c (by omega) hqc
theorem mi_takeRow (hP : P.length = 135) {r : Nat} (hr : r < 5) (X : Ln n A L) (K : match rdRow 4 L with
    | none => Q (some (.int (-3))) (wr P S (upd n 1 0) A)
    | some l => ∀ A', (∀ x, x ≠ 1 → x ≠ 2 → A' x = A x) → (∀ q, (q < r * 40 ∨ r * 40 + 40 ≤ q) → A' 1 q = A 1 q) → (∀ q c, L[q]? = some c → A' 1 (r * 40 + q) = c) → (∀ q, q ≠ r → A' 2 q = A 2 q) → A' 2 r = nI L.length → Q (some (.int (nI l.length))) (wr P S (upd n 1 0) A')) : wp (d + 2) 96 0 [some (.ref 135), some (.int (nI r)), none, none, none, none] [] (wr P S n A) Q := by
  obtain ⟨x1, x2, x3, x4⟩ := id X
  have hs : sN ≤ 135 := by decide
  have hs2 : sN ≤ 138 := by decide
  have en : (-1 : Int32) < 0 := by decide
  have e0 : ¬ nI L.length < 0 := nI_pos (by omega)
  have cr := cnt_row L.length 4 L (Nat.le_refl _)
  simp only [k_96_0, k_96_1, k_96_2, k_96_3, am_cat, am_kill, Value.category, List.map_cons, List.map_nil, List.sum_cons, List.sum_nil, Option.toList_some, Option.toList_none, List.cons_append, List.nil_append, List.length_cons, List.length_nil, List.getD_cons_succ, List.getD_cons_zero, List.set_cons_succ, List.set_cons_zero, Nat.reduceAdd, Nat.reduceLT, Nat.reduceLeDiff, Nat.zero_le, Nat.zero_add, Nat.add_zero]
  rw [show (0 : Int32) = nI 0 from rfl]
  refine tr_loop hP X L.length 0 0 (by omega) (by omega) (by omega) ?_
  rw [List.drop_zero]
  cases hc : cntT L.length L with
  | none =>
    intro m'
    simp only [k_96_28, k_96_28N, k_96_32, k_96_34, k_96_34N, k_96_35, k_96_39, k_96_40, k_96_48, k_96_50, k_96_29, k_96_36, ogw hP, fw_1 hP, hw_1 hP, hs, x1, en, if_true, am_cat, am_kill, Value.category, List.map_cons, List.map_nil, List.sum_cons, List.sum_nil, Option.toList_some, Option.toList_none, List.cons_append, List.nil_append, List.length_cons, List.length_nil, List.getD_cons_succ, List.getD_cons_zero, List.set_cons_succ, List.set_cons_zero, Nat.reduceAdd, Nat.reduceLT, Nat.reduceLeDiff, Nat.zero_le, Nat.zero_add, Nat.add_zero]
    cases hrr : rdRow 4 L with
    | none => rw [hrr] at K; exact K
    | some l =>
      rw [hrr] at cr
      rw [hc] at cr
      cases cr.1
  | some c =>
    dsimp only
    rw [Nat.zero_add]
    cases hrr : rdRow 4 L with
    | none =>
      rw [hrr] at K cr
      dsimp only at K cr
      have h4 : 4 < c := by
        rcases cr with z | ⟨c', z, h⟩
        · rw [hc] at z; cases z
        · rw [hc] at z; cases z; exact h
      have hcl : ∀ (f : Nat) (l : List Int32) (c : Nat), cntT f l = some c → c ≤ f := by
        intro f
        induction f with
        | zero =>
          intro l c hh
          have : (if l = [] then some 0 else none) = some c := hh
          split at this
          · cases this; exact Nat.le_refl _
          · cases this
        | succ f ih =>
          intro l c hh
          have hh : (if l = [] then some 0 else match rdTy l with
            | none => none
            | some q => match cntT f (l.drop q.2) with
              | none => none
              | some c => some (c + 1)) = some c := hh
          split at hh
          · cases hh; omega
          · split at hh
            · cases hh
            · split at hh
              · cases hh
              · rename_i c' hc'
                cases hh
                have := ih _ _ hc'
                omega
      have hcle := hcl _ _ _ hc
      have e4 : (4 : Int32) < nI c := nI_lt (a := 4) h4 (by omega)
      simp only [k_96_28, k_96_28N, k_96_32, k_96_34, k_96_34N, k_96_35, k_96_39, k_96_40, k_96_43, k_96_44, k_96_45, k_96_48, k_96_50, k_96_29, k_96_36, ogw hP, fw_1 hP, hw_1 hP, hs, x1, e0, e4, if_true, if_false, am_cat, am_kill, Value.category, List.map_cons, List.map_nil, List.sum_cons, List.sum_nil, Option.toList_some, Option.toList_none, List.cons_append, List.nil_append, List.length_cons, List.length_nil, List.getD_cons_succ, List.getD_cons_zero, List.set_cons_succ, List.set_cons_zero, Nat.reduceAdd, Nat.reduceLT, Nat.reduceLeDiff, Nat.zero_le, Nat.zero_add, Nat.add_zero]
      exact K
    | some l =>
      rw [hrr] at K cr
      dsimp only at K cr
      have hcl : c = l.length := by
        have := cr.1
        rw [hc] at this
        cases this
        rfl
      subst hcl
      have e4 : ¬ (4 : Int32) < nI l.length := nI_nlt (b := l.length) (a := 4) cr.2 (by omega)
      simp only [k_96_28, k_96_28N, k_96_32, k_96_34, k_96_34N, k_96_35, k_96_39, k_96_40, k_96_43, k_96_44, k_96_45, k_96_51, k_96_52, k_96_29, k_96_36, ogw hP, fw_1 hP, hw_1 hP, hs, x1, e0, e4, if_false, am_cat, am_kill, Value.category, List.map_cons, List.map_nil, List.sum_cons, List.sum_nil, Option.toList_some, Option.toList_none, List.cons_append, List.nil_append, List.length_cons, List.length_nil, List.getD_cons_succ, List.getD_cons_zero, List.set_cons_succ, List.set_cons_zero, Nat.reduceAdd, Nat.reduceLT, Nat.reduceLeDiff, Nat.zero_le, Nat.zero_add, Nat.add_zero]
      rw [show some (Value.int (0 : Int32)) = some (.int (nI 0)) from rfl]
      refine tr_copy hP hr x2 x3 x4 L.length 0 A (by omega) (fun _ _ => rfl) (fun _ _ => rfl) (fun q c hq => by omega) (fun B b1 b2 b3 => ?_)
      simp only [k_96_86, k_96_86N, k_96_90, k_96_91, k_96_87, ogw hP, fw_12 hP, am_cat, am_kill, Value.category, List.map_cons, List.map_nil, List.sum_cons, List.sum_nil, Option.toList_some, Option.toList_none, List.cons_append, List.nil_append, List.length_cons, List.length_nil, List.getD_cons_succ, List.getD_cons_zero, List.set_cons_succ, List.set_cons_zero, Nat.reduceAdd, Nat.reduceLT, Nat.reduceLeDiff, Nat.zero_le, Nat.zero_add, Nat.add_zero]
      rw [k_96_93 (ow_2 hP (by omega)) hs2, sw_2 hP (by omega)]
      simp only [k_96_94, k_96_95, am_cat, am_kill, Value.category, List.map_cons, List.map_nil, List.sum_cons, List.sum_nil, Option.toList_some, Option.toList_none, List.cons_append, List.nil_append, List.length_cons, List.length_nil, List.getD_cons_succ, List.getD_cons_zero, List.set_cons_succ, List.set_cons_zero, Nat.reduceAdd, Nat.reduceLT, Nat.reduceLeDiff, Nat.zero_le, Nat.zero_add, Nat.add_zero]
      exact K _ (fun x h1 h2 => by rw [uA_r h2]; exact b1 x h1) (fun q hq => by rw [uA_n (by decide)]; exact b2 q hq) (fun q c hq => by rw [uA_n (by decide)]; exact b3 q c hq) (fun q hq => by rw [uA_m hq, b1 2 (by decide)]) uA_s
end MRD
