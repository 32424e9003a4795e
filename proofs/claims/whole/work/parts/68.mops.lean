/-! THE REFERENCE'S SMALL CALLS -/
theorem asc_of {x : Int32} (h1 : ¬ x < 0) (h2 : ¬ 127 < x) : asc x := by
  obtain ⟨m, hm, rfl⟩ := nI_of h1
  have : ¬ 127 < m := fun z => h2 (nI_lt (a := 127) z hm)
  exact ⟨by rw [nI_toInt hm]; omega, by rw [nI_toInt hm]; omega⟩
section MO
variable {P S : AH} {n : Nat → Int32} {A : Nat → Nat → Int32} {d : Nat} {s : St} {Q : Option Value → AH → Prop}
theorem mo_type (hP : P.length = 135) {x : Int32} (M : MI s n A) (K : ∀ n' A', MI (oType x s).1 n' A' → Q (some (.int (oType x s).2)) (wr P S n' A')) : wp d 94 0 [some (.ref 135), some (.int x)] [] (wr P S n A) Q := by
  have hs : sN ≤ 135 := by decide
  have hs2 : sN ≤ 136 := by decide
  obtain ⟨W, L, R, τ, D, T, tk, Ls, br⟩ := s
  obtain ⟨m0, mL, mD, mR, mt, m3, mT, m5, m6, m7, m8, m9, mx, m23⟩ := id M
  obtain ⟨x1, x2, x3, x4⟩ := id mL
  unfold oType at K
  dsimp only at K
  by_cases c1 : x < 0
  · rw [if_pos (Or.inl c1)] at K
    simp only [k_94_0, k_94_1, k_94_10, k_94_11, c1, if_true, am_cat, am_kill, Value.category, List.map_cons, List.map_nil, List.sum_cons, List.sum_nil, Option.toList_some, Option.toList_none, List.cons_append, List.nil_append, List.length_cons, List.length_nil, List.getD_cons_succ, List.getD_cons_zero, List.set_cons_succ, List.set_cons_zero, Nat.reduceAdd, Nat.reduceLT, Nat.reduceLeDiff, Nat.zero_le, Nat.zero_add, Nat.add_zero]
    exact K n A M
  by_cases c2 : 127 < x
  · rw [if_pos (Or.inr c2)] at K
    simp only [k_94_0, k_94_1, k_94_4, k_94_5, k_94_7, k_94_10, k_94_11, c1, c2, if_true, if_false, am_cat, am_kill, Value.category, List.map_cons, List.map_nil, List.sum_cons, List.sum_nil, Option.toList_some, Option.toList_none, List.cons_append, List.nil_append, List.length_cons, List.length_nil, List.getD_cons_succ, List.getD_cons_zero, List.set_cons_succ, List.set_cons_zero, Nat.reduceAdd, Nat.reduceLT, Nat.reduceLeDiff, Nat.zero_le, Nat.zero_add, Nat.add_zero]
    exact K n A M
  rw [if_neg (fun z => z.elim c1 c2)] at K
  have e1 : (nI L.length = 40) ↔ L.length = 40 := nI_eq (b := 40) (by omega) (by omega)
  by_cases c3 : L.length = 40
  · rw [if_pos c3] at K
    simp only [k_94_0, k_94_1, k_94_4, k_94_5, k_94_7, k_94_12, k_94_12N, k_94_16, k_94_18, k_94_21, k_94_23, k_94_13, ogw hP, fw_1 hP, x1, e1, c3, c1, c2, if_true, if_false, am_cat, am_kill, Value.category, List.map_cons, List.map_nil, List.sum_cons, List.sum_nil, Option.toList_some, Option.toList_none, List.cons_append, List.nil_append, List.length_cons, List.length_nil, List.getD_cons_succ, List.getD_cons_zero, List.set_cons_succ, List.set_cons_zero, Nat.reduceAdd, Nat.reduceLT, Nat.reduceLeDiff, Nat.zero_le, Nat.zero_add, Nat.add_zero]
    exact K n A M
  · rw [if_neg c3] at K
    have ha := asc_of c1 c2
    simp only [k_94_0, k_94_1, k_94_4, k_94_5, k_94_7, k_94_12, k_94_12N, k_94_16, k_94_18, k_94_24, k_94_24N, k_94_28, k_94_28N, k_94_32, k_94_33, k_94_13, k_94_25, k_94_29, ogw hP, fw_1 hP, fw_10 hP, x1, e1, c3, c1, c2, if_false, i2c_chr (asc_chr ha), am_cat, am_kill, Value.category, List.map_cons, List.map_nil, List.sum_cons, List.sum_nil, Option.toList_some, Option.toList_none, List.cons_append, List.nil_append, List.length_cons, List.length_nil, List.getD_cons_succ, List.getD_cons_zero, List.set_cons_succ, List.set_cons_zero, Nat.reduceAdd, Nat.reduceLT, Nat.reduceLeDiff, Nat.zero_le, Nat.zero_add, Nat.add_zero]
    rw [k_94_34 (ow_0 hP (by omega)) hs2, nar_chr (asc_chr ha), sw_0 hP (by omega)]
    simp only [k_94_35, k_94_35N, k_94_36, k_94_36i, k_94_40, k_94_41, k_94_45, k_94_45N, k_94_49, k_94_37, k_94_42, k_94_46, ogw hP, fw_1 hP, hw_1 hP, hs, x1, pk_us, nI_1, am_cat, am_kill, Value.category, List.map_cons, List.map_nil, List.sum_cons, List.sum_nil, Option.toList_some, Option.toList_none, List.cons_append, List.nil_append, List.length_cons, List.length_nil, List.getD_cons_succ, List.getD_cons_zero, List.set_cons_succ, List.set_cons_zero, Nat.reduceAdd, Nat.reduceLT, Nat.reduceLeDiff, Nat.zero_le, Nat.zero_add, Nat.add_zero]
    refine K _ _ ⟨by rw [pk_un (by decide)]; exact m0, ⟨by rw [pk_us, List.length_append]; rfl, by rw [List.length_append]; show L.length + 1 ≤ 40; omega, fun j c hj => ?_, fun c hc => ?_⟩, mD.cg (pk_un (by decide)) (uA_r (by decide)), fun r hr => (mR r hr).cg (fun j _ _ => by rw [uA_n (by decide)]) (by rw [uA_n (by decide)]), mt.cg (fun j _ => by rw [uA_n (by decide)]), by rw [pk_un (by decide)]; exact m3, mT.cg (uA_r (by decide)) (uA_r (by decide)) (uA_r (by decide)), by rw [pk_un (by decide)]; exact m5, by rw [pk_un (by decide)]; exact m6, by rw [pk_un (by decide)]; exact m7, by rw [pk_un (by decide)]; exact m8, by rw [pk_un (by decide)]; exact m9, mx.cg (uA_r (by decide)), by rw [pk_un (by decide)]; exact m23⟩
    · rw [List.getElem?_append] at hj
      by_cases c4 : j < L.length
      · rw [if_pos c4] at hj
        rw [uA_m (by omega)]
        exact x3 j c hj
      · rw [if_neg c4] at hj
        have hz : j - L.length < 1 := (List.getElem?_eq_some_iff.mp hj).1
        obtain rfl : j = L.length := by omega
        rw [Nat.sub_self] at hj
        cases hj
        exact uA_s
    · rcases List.mem_append.mp hc with hc | hc
      · exact x4 c hc
      · rw [List.mem_singleton.mp hc]; exact ha
theorem mo_row (hP : P.length = 135) {k : Nat} (hk : k < 5) (I : SI s) (M : MI s n A) (K : ∀ n' A', MI (oRow k s).1 n' A' → Q (some (.int (oRow k s).2)) (wr P S n' A')) : wp (d + 2) 96 0 [some (.ref 135), some (.int (nI k)), none, none, none, none] [] (wr P S n A) Q := by
  obtain ⟨W, L, R, τ, D, T, tk, Ls, br⟩ := s
  obtain ⟨m0, mL, mD, mR, mt, m3, mT, m5, m6, m7, m8, m9, mx, m23⟩ := id M
  obtain ⟨x1, x2, x3, x4⟩ := id mL
  have hR5 : R.length = 5 := I.2.2.1.1
  unfold oRow at K
  dsimp only at K
  refine mi_takeRow hP hk mL ?_
  have e0 : ∀ A' : Nat → Nat → Int32, Ln (upd n 1 0) A' [] := fun A' => ⟨by rw [pk_us]; rfl, Nat.zero_le _, fun j c hj => by simp at hj, fun c hc => absurd hc List.not_mem_nil⟩
  cases hr : rdRow 4 L with
  | none =>
    rw [hr] at K
    exact K _ _ ⟨by rw [pk_un (by decide)]; exact m0, e0 _, mD.cg (pk_un (by decide)) rfl, mR, mt, by rw [pk_un (by decide)]; exact m3, mT, by rw [pk_un (by decide)]; exact m5, by rw [pk_un (by decide)]; exact m6, by rw [pk_un (by decide)]; exact m7, by rw [pk_un (by decide)]; exact m8, by rw [pk_un (by decide)]; exact m9, mx, by rw [pk_un (by decide)]; exact m23⟩
  | some l =>
    rw [hr] at K
    intro A' a1 a2 a3 a4 a5
    obtain ⟨b1, b2, b3, b4⟩ := rdRow_at 4 L l (k * 40) hr a3 (by omega)
    refine K _ _ ⟨by rw [pk_un (by decide)]; exact m0, e0 _, mD.cg (pk_un (by decide)) (a1 3 (by decide) (by decide)), fun r hr => ?_, mt.cg (fun j hj => a2 j (by omega)), by rw [pk_un (by decide)]; exact m3, mT.cg (a1 4 (by decide) (by decide)) (a1 6 (by decide) (by decide)) (a1 7 (by decide) (by decide)), by rw [pk_un (by decide)]; exact m5, by rw [pk_un (by decide)]; exact m6, by rw [pk_un (by decide)]; exact m7, by rw [pk_un (by decide)]; exact m8, by rw [pk_un (by decide)]; exact m9, mx.cg (a1 5 (by decide) (by decide)), by rw [pk_un (by decide)]; exact m23⟩
    by_cases c : r = k
    · subst c
      have e : (R.set r l).getD r [] = l := by rw [set_row (by omega), if_pos rfl]
      unfold Mrw
      rw [e, b2]
      exact ⟨a5, b1, b4, b3, x2⟩
    · have e : (R.set k l).getD r [] = R.getD r [] := by rw [set_row (by omega), if_neg c]
      have hm := (mR r hr).cg (A' := A') (fun j j1 j2 => a2 j (by omega)) (a4 r c)
      unfold Mrw at hm ⊢
      rw [e]
      exact hm
theorem mo_fields (hP : P.length = 135) {x : Int32} (I : SI s) (M : MI s n A) (K : ∀ n' A', MI (oFields x s).1 n' A' → Q (some (.int (oFields x s).2)) (wr P S n' A')) : wp (d + 3) 95 0 [some (.ref 135), some (.int x)] [] (wr P S n A) Q := by
  unfold oFields at K
  by_cases c1 : x < 0
  · rw [if_pos (Or.inl c1)] at K
    simp only [k_95_0, k_95_1, k_95_9, k_95_10, k_95_18, c1, if_true, am_cat, am_kill, Value.category, List.map_cons, List.map_nil, List.sum_cons, List.sum_nil, Option.toList_some, Option.toList_none, List.cons_append, List.nil_append, List.length_cons, List.length_nil, List.getD_cons_succ, List.getD_cons_zero, List.set_cons_succ, List.set_cons_zero, Nat.reduceAdd, Nat.reduceLT, Nat.reduceLeDiff, Nat.zero_le, Nat.zero_add, Nat.add_zero]
    exact K n A M
  by_cases c2 : 3 < x
  · rw [if_pos (Or.inr c2)] at K
    simp only [k_95_0, k_95_1, k_95_4, k_95_5, k_95_6, k_95_9, k_95_10, k_95_18, c1, c2, if_true, if_false, am_cat, am_kill, Value.category, List.map_cons, List.map_nil, List.sum_cons, List.sum_nil, Option.toList_some, Option.toList_none, List.cons_append, List.nil_append, List.length_cons, List.length_nil, List.getD_cons_succ, List.getD_cons_zero, List.set_cons_succ, List.set_cons_zero, Nat.reduceAdd, Nat.reduceLT, Nat.reduceLeDiff, Nat.zero_le, Nat.zero_add, Nat.add_zero]
    exact K n A M
  rw [if_neg (fun z => z.elim c1 c2)] at K
  obtain ⟨m, hm, rfl⟩ := nI_of c1
  have h3 : ¬ 3 < m := fun z => c2 (nI_lt (a := 3) z hm)
  rw [nI_clamp hm] at K
  simp only [k_95_0, k_95_1, k_95_4, k_95_5, k_95_6, k_95_13, k_95_13N, k_95_14, k_95_15, ovw hP, c1, c2, if_false, am_cat, am_kill, Value.category, List.map_cons, List.map_nil, List.sum_cons, List.sum_nil, Option.toList_some, Option.toList_none, List.cons_append, List.nil_append, List.length_cons, List.length_nil, List.getD_cons_succ, List.getD_cons_zero, List.set_cons_succ, List.set_cons_zero, Nat.reduceAdd, Nat.reduceLT, Nat.reduceLeDiff, Nat.zero_le, Nat.zero_add, Nat.add_zero]
  refine mo_row hP (by omega) I M (fun n' A' M' => ?_)
  simp only [k_95_18, am_cat, am_kill, Value.category, List.map_cons, List.map_nil, List.sum_cons, List.sum_nil, Option.toList_some, Option.toList_none, List.cons_append, List.nil_append, List.length_cons, List.length_nil, List.getD_cons_succ, List.getD_cons_zero, List.set_cons_succ, List.set_cons_zero, Nat.reduceAdd, Nat.reduceLT, Nat.reduceLeDiff, Nat.zero_le, Nat.zero_add, Nat.add_zero]
  exact K n' A' M'
theorem mo_parameters (hP : P.length = 135) (I : SI s) (M : MI s n A) (K : ∀ n' A', MI (oRow 4 s).1 n' A' → Q (some (.int (oRow 4 s).2)) (wr P S n' A')) : wp (d + 3) 99 0 [some (.ref 135)] [] (wr P S n A) Q := by
  simp only [k_99_0, k_99_0N, k_99_1, k_99_2, ovw hP, am_cat, am_kill, Value.category, List.map_cons, List.map_nil, List.sum_cons, List.sum_nil, Option.toList_some, Option.toList_none, List.cons_append, List.nil_append, List.length_cons, List.length_nil, List.getD_cons_succ, List.getD_cons_zero, List.set_cons_succ, List.set_cons_zero, Nat.reduceAdd, Nat.reduceLT, Nat.reduceLeDiff, Nat.zero_le, Nat.zero_add, Nat.add_zero]
  refine mo_row (k := 4) hP (by omega) I M (fun n' A' M' => ?_)
  simp only [k_99_5, am_cat, am_kill, Value.category, List.map_cons, List.map_nil, List.sum_cons, List.sum_nil, Option.toList_some, Option.toList_none, List.cons_append, List.nil_append, List.length_cons, List.length_nil, List.getD_cons_succ, List.getD_cons_zero, List.set_cons_succ, List.set_cons_zero, Nat.reduceAdd, Nat.reduceLT, Nat.reduceLeDiff, Nat.zero_le, Nat.zero_add, Nat.add_zero]
  exact K n' A' M'
theorem rs_copy (hP : P.length = 135) {L : List Int32} {o1 o2 : Option Value} (hl : L.length ≤ 40) (x3 : ∀ (j : Nat) (c : Int32), L[j]? = some c → A 0 j = c) (x4 : ∀ c ∈ L, asc c) : ∀ (j i : Nat) (B : Nat → Nat → Int32), i + j = L.length → (∀ x, x ≠ 1 → B x = A x) → (∀ q, q < 200 → B 1 q = A 1 q) → (∀ q c, q < i → L[q]? = some c → B 1 (200 + q) = c) → (∀ B', (∀ x, x ≠ 1 → B' x = A x) → (∀ q, q < 200 → B' 1 q = A 1 q) → (∀ q c, L[q]? = some c → B' 1 (200 + q) = c) → wp d 100 94 [some (.ref 135), o1, o2, some (.int (nI L.length)), some (.int (nI L.length))] [] (wr P S n B') Q) → wp d 100 64 [some (.ref 135), o1, o2, some (.int (nI L.length)), some (.int (nI i))] [] (wr P S n B) Q := by
  intro j
  induction j with
  | zero =>
    intro i B hi b1 b2 b3 K
    obtain rfl : i = L.length := by omega
    have e1 : ¬ nI L.length < nI L.length := nI_nlt (Nat.le_refl _) (by omega)
    simp only [k_100_64, k_100_66, k_100_67, e1, if_false, am_cat, am_kill, Value.category, List.map_cons, List.map_nil, List.sum_cons, List.sum_nil, Option.toList_some, Option.toList_none, List.cons_append, List.nil_append, List.length_cons, List.length_nil, List.getD_cons_succ, List.getD_cons_zero, List.set_cons_succ, List.set_cons_zero, Nat.reduceAdd, Nat.reduceLT, Nat.reduceLeDiff, Nat.zero_le, Nat.zero_add, Nat.add_zero]
    exact K B b1 b2 (fun q c hq => b3 q c (List.getElem?_eq_some_iff.mp hq).1 hq)
  | succ j ih =>
    intro i B hi b1 b2 b3 K
    have hs : sN ≤ 137 := by decide
    have e1 : nI i < nI L.length := nI_lt (by omega) (by omega)
    have hc : L[i]? = some L[i] := List.getElem?_eq_getElem (by omega)
    have ha : asc L[i] := x4 _ (List.getElem_mem _)
    have e2 : (200 : Int32) + nI i = nI (200 + i) := nI_add 200 i
    simp only [k_100_64, k_100_66, k_100_67, k_100_70, k_100_70N, k_100_74, k_100_77, k_100_79, k_100_80, k_100_80N, k_100_84, k_100_71, k_100_81, ogw hP, fw_10 hP, fw_11 hP, e1, e2, if_true, am_cat, am_kill, Value.category, List.map_cons, List.map_nil, List.sum_cons, List.sum_nil, Option.toList_some, Option.toList_none, List.cons_append, List.nil_append, List.length_cons, List.length_nil, List.getD_cons_succ, List.getD_cons_zero, List.set_cons_succ, List.set_cons_zero, Nat.reduceAdd, Nat.reduceLT, Nat.reduceLeDiff, Nat.zero_le, Nat.zero_add, Nat.add_zero]
    rw [k_100_86 (ow_0 hP (by omega)), aw_0 hP (by omega), b1 0 (by decide), x3 i _ hc, k_100_87 (ow_1 hP (by omega)) hs, nar_chr (asc_chr ha), sw_1 hP (by omega)]
    simp only [k_100_88, k_100_91, nI_1, am_cat, am_kill, Value.category, List.map_cons, List.map_nil, List.sum_cons, List.sum_nil, Option.toList_some, Option.toList_none, List.cons_append, List.nil_append, List.length_cons, List.length_nil, List.getD_cons_succ, List.getD_cons_zero, List.set_cons_succ, List.set_cons_zero, Nat.reduceAdd, Nat.reduceLT, Nat.reduceLeDiff, Nat.zero_le, Nat.zero_add, Nat.add_zero]
    refine ih (i + 1) _ (by omega) (fun x hx => by rw [uA_r hx]; exact b1 x hx) (fun q hq => by rw [uA_m (by omega)]; exact b2 q hq) (fun q c hq hqc => ?_) K
    by_cases c4 : q = i
    · subst c4
      rw [uA_s]
      rw [hc] at hqc
      cases hqc
      rfl
    · rw [uA_m (by omega)]
      exact b3 q c (by omega) hqc
theorem mo_res (hP : P.length = 135) (I : SI s) (M : MI s n A) (K : ∀ n' A', MI (oRes s).1 n' A' → Q (some (.int (oRes s).2)) (wr P S n' A')) : wp (d + 3) 100 0 [some (.ref 135), none, none, none, none] [] (wr P S n A) Q := by
  have hs : sN ≤ 135 := by decide
  have hs2 : sN ≤ 138 := by decide
  obtain ⟨W, L, R, τ, D, T, tk, Ls, br⟩ := s
  obtain ⟨m0, mL, mD, mR, mt, m3, mT, m5, m6, m7, m8, m9, mx, m23⟩ := id M
  obtain ⟨x1, x2, x3, x4⟩ := id mL
  unfold oRes at K
  dsimp only at K
  have e0 : ∀ A' : Nat → Nat → Int32, Ln (upd n 1 0) A' [] := fun A' => ⟨by rw [pk_us]; rfl, Nat.zero_le _, fun j c hj => by simp at hj, fun c hc => absurd hc List.not_mem_nil⟩
  have kb : ∀ o1 : Int32, rdRes L = none → ∀ v : Int32, (v ≠ nI L.length ∨ L.length = 0) → wp (d + 3) 100 38 [some (.ref 135), some (.int o1), none, none, none] [.int v] (wr P S n A) Q := by
    intro o1 hr v hv
    rw [hr] at K
    have K := K (upd n 1 0) A ⟨by rw [pk_un (by decide)]; exact m0, e0 _, mD.cg (pk_un (by decide)) rfl, mR, mt, by rw [pk_un (by decide)]; exact m3, mT, by rw [pk_un (by decide)]; exact m5, by rw [pk_un (by decide)]; exact m6, by rw [pk_un (by decide)]; exact m7, by rw [pk_un (by decide)]; exact m8, by rw [pk_un (by decide)]; exact m9, mx, by rw [pk_un (by decide)]; exact m23⟩
    simp only [k_100_38, k_100_39, k_100_39N, k_100_43, k_100_44, k_100_44N, k_100_45, k_100_49, k_100_50, k_100_51, k_100_40, k_100_46, ogw hP, fw_1 hP, hw_1 hP, hs, x1, am_cat, am_kill, Value.category, List.map_cons, List.map_nil, List.sum_cons, List.sum_nil, Option.toList_some, Option.toList_none, List.cons_append, List.nil_append, List.length_cons, List.length_nil, List.getD_cons_succ, List.getD_cons_zero, List.set_cons_succ, List.set_cons_zero, Nat.reduceAdd, Nat.reduceLT, Nat.reduceLeDiff, Nat.zero_le, Nat.zero_add, Nat.add_zero]
    by_cases c : v = nI L.length
    · have hl : L.length = 0 := hv.resolve_left (fun z => z c)
      have e2 : nI L.length = 0 := by rw [hl]; rfl
      simp only [c, e2, if_true, k_100_54, k_100_55, k_100_58, k_100_60, am_cat, am_kill, Value.category, List.map_cons, List.map_nil, List.sum_cons, List.sum_nil, Option.toList_some, Option.toList_none, List.cons_append, List.nil_append, List.length_cons, List.length_nil, List.getD_cons_succ, List.getD_cons_zero, List.set_cons_succ, List.set_cons_zero, Nat.reduceAdd, Nat.reduceLT, Nat.reduceLeDiff, Nat.zero_le, Nat.zero_add, Nat.add_zero]
      exact K
    · simp only [c, if_false, k_100_58, k_100_60, am_cat, am_kill, Value.category, List.map_cons, List.map_nil, List.sum_cons, List.sum_nil, Option.toList_some, Option.toList_none, List.cons_append, List.nil_append, List.length_cons, List.length_nil, List.getD_cons_succ, List.getD_cons_zero, List.set_cons_succ, List.set_cons_zero, Nat.reduceAdd, Nat.reduceLT, Nat.reduceLeDiff, Nat.zero_le, Nat.zero_add, Nat.add_zero]
      exact K
  have kg : ∀ (o1 : Int32) (σ : Ty), rdRes L = some σ → 0 < L.length → (∀ B : Nat → Nat → Int32, (∀ q c, L[q]? = some c → B 1 (200 + q) = c) → ResA B σ) → wp (d + 3) 100 38 [some (.ref 135), some (.int o1), none, none, none] [.int (nI L.length)] (wr P S n A) Q := by
    intro o1 σ hr hl hB
    rw [hr] at K
    have e2 : ¬ nI L.length = 0 := nI_ne0 hl (by omega)
    simp only [k_100_38, k_100_39, k_100_39N, k_100_43, k_100_44, k_100_44N, k_100_45, k_100_49, k_100_50, k_100_51, k_100_40, k_100_46, ogw hP, fw_1 hP, hw_1 hP, hs, x1, if_true, am_cat, am_kill, Value.category, List.map_cons, List.map_nil, List.sum_cons, List.sum_nil, Option.toList_some, Option.toList_none, List.cons_append, List.nil_append, List.length_cons, List.length_nil, List.getD_cons_succ, List.getD_cons_zero, List.set_cons_succ, List.set_cons_zero, Nat.reduceAdd, Nat.reduceLT, Nat.reduceLeDiff, Nat.zero_le, Nat.zero_add, Nat.add_zero]
    simp only [k_100_54, k_100_55, k_100_61, k_100_62, e2, if_false, am_cat, am_kill, Value.category, List.map_cons, List.map_nil, List.sum_cons, List.sum_nil, Option.toList_some, Option.toList_none, List.cons_append, List.nil_append, List.length_cons, List.length_nil, List.getD_cons_succ, List.getD_cons_zero, List.set_cons_succ, List.set_cons_zero, Nat.reduceAdd, Nat.reduceLT, Nat.reduceLeDiff, Nat.zero_le, Nat.zero_add, Nat.add_zero]
    rw [show some (Value.int (0 : Int32)) = some (.int (nI 0)) from rfl]
    refine rs_copy hP x2 x3 x4 L.length 0 A (by omega) (fun _ _ => rfl) (fun _ _ => rfl) (fun q c hq => by omega) (fun B b1 b2 b3 => ?_)
    simp only [k_100_94, k_100_94N, k_100_98, k_100_99, k_100_95, ogw hP, fw_12 hP, am_cat, am_kill, Value.category, List.map_cons, List.map_nil, List.sum_cons, List.sum_nil, Option.toList_some, Option.toList_none, List.cons_append, List.nil_append, List.length_cons, List.length_nil, List.getD_cons_succ, List.getD_cons_zero, List.set_cons_succ, List.set_cons_zero, Nat.reduceAdd, Nat.reduceLT, Nat.reduceLeDiff, Nat.zero_le, Nat.zero_add, Nat.add_zero]
    rw [k_100_100 (show okA am_isI (wr P S (upd n 1 0) B) 138 5 from ow_2 (j := 5) hP (by omega)) hs2]
    rw [show hast (wr P S (upd n 1 0) B) 138 5 (Value.int (nI L.length)) = wr P S (upd n 1 0) (uA B 2 5 (nI L.length)) from sw_2 (j := 5) hP (by omega)]
    simp only [k_100_101, k_100_102, am_cat, am_kill, Value.category, List.map_cons, List.map_nil, List.sum_cons, List.sum_nil, Option.toList_some, Option.toList_none, List.cons_append, List.nil_append, List.length_cons, List.length_nil, List.getD_cons_succ, List.getD_cons_zero, List.set_cons_succ, List.set_cons_zero, Nat.reduceAdd, Nat.reduceLT, Nat.reduceLeDiff, Nat.zero_le, Nat.zero_add, Nat.add_zero]
    refine K _ _ ⟨by rw [pk_un (by decide)]; exact m0, e0 _, mD.cg (pk_un (by decide)) (by rw [uA_r (by decide)]; exact b1 3 (by decide)), fun r hr => (mR r hr).cg (fun j j1 j2 => by rw [uA_n (by decide)]; exact b2 j (by omega)) (by rw [uA_m (by omega), b1 2 (by decide)]), hB _ (fun q c hq => by rw [uA_n (by decide)]; exact b3 q c hq), by rw [pk_un (by decide)]; exact m3, mT.cg (by rw [uA_r (by decide)]; exact b1 4 (by decide)) (by rw [uA_r (by decide)]; exact b1 6 (by decide)) (by rw [uA_r (by decide)]; exact b1 7 (by decide)), by rw [pk_un (by decide)]; exact m5, by rw [pk_un (by decide)]; exact m6, by rw [pk_un (by decide)]; exact m7, by rw [pk_un (by decide)]; exact m8, by rw [pk_un (by decide)]; exact m9, mx.cg (by rw [uA_r (by decide)]; exact b1 5 (by decide)), by rw [pk_un (by decide)]; exact m23⟩
  have kt : L ≠ [86] → wp (d + 3) 100 23 [some (.ref 135), none, none, none, none] [] (wr P S n A) Q := by
    intro hne
    have e3 : ∀ Q', wp (d + 2) 97 0 [some (.ref 135), some (.int 0), none] [] (wr P S n A) Q' ↔ Q' (some (.int (teV L 0))) (wr P S n A) := fun Q' => sp_typeEnd (d := d + 1) (p := 0) hP mL (Nat.zero_le _)
    simp only [k_100_23, k_100_24, k_100_25, k_100_26, k_100_33, k_100_33N, k_100_34, k_100_35, ovw hP, e3, if_true, am_cat, am_kill, Value.category, List.map_cons, List.map_nil, List.sum_cons, List.sum_nil, Option.toList_some, Option.toList_none, List.cons_append, List.nil_append, List.length_cons, List.length_nil, List.getD_cons_succ, List.getD_cons_zero, List.set_cons_succ, List.set_cons_zero, Nat.reduceAdd, Nat.reduceLT, Nat.reduceLeDiff, Nat.zero_le, Nat.zero_add, Nat.add_zero]
    have eR : rdRes L = match rdTy L with
      | none => none
      | some q => if q.2 = L.length then some q.1 else none := if_neg hne
    unfold teV
    rw [List.drop_zero]
    cases hq : rdTy L with
    | none =>
      rw [hq] at eR
      refine kb 0 eR _ (Or.inl (fun z => ?_))
      have := nI_pos (n := L.length) (by omega)
      rw [← z] at this
      exact this (by decide)
    | some q =>
      rw [hq] at eR
      dsimp only at eR ⊢
      obtain ⟨s1, s2, s3, s4⟩ := rdTy_spl hq
      rw [Nat.zero_add]
      by_cases c : q.2 = L.length
      · rw [if_pos c] at eR
        rw [c]
        refine kg 0 q.1 eR (by omega) (fun B hB => ?_)
        exact Or.inl (rdTy_at hq hB (Nat.le_refl _))
      · rw [if_neg c] at eR
        exact kb 0 eR _ (Or.inl (fun z => c ((nI_eq (by omega) (by omega)).mp z)))
  have e1 : (nI L.length = 1) ↔ L.length = 1 := nI_eq (b := 1) (by omega) (by omega)
  by_cases c1 : L.length = 1
  · obtain ⟨v, rfl⟩ : ∃ v, L = [v] := by
      match L, c1 with
      | [v], _ => exact ⟨v, rfl⟩
    have ev : A 0 0 = v := x3 0 v rfl
    have x1' : n 1 = 1 := x1
    simp only [k_100_0, k_100_0N, k_100_4, k_100_5, k_100_8, k_100_8N, k_100_12, k_100_1, k_100_9, ogw hP, fw_1 hP, fw_10 hP, x1', if_true, am_cat, am_kill, Value.category, List.map_cons, List.map_nil, List.sum_cons, List.sum_nil, Option.toList_some, Option.toList_none, List.cons_append, List.nil_append, List.length_cons, List.length_nil, List.getD_cons_succ, List.getD_cons_zero, List.set_cons_succ, List.set_cons_zero, Nat.reduceAdd, Nat.reduceLT, Nat.reduceLeDiff, Nat.zero_le, Nat.zero_add, Nat.add_zero]
    rw [k_100_13 (show okA am_isC (wr P S n A) 136 0 from ow_0 (j := 0) hP (by omega))]
    rw [show arr (wr P S n A) 136 0 = Value.int (A 0 0) from aw_0 (j := 0) hP (by omega), ev]
    by_cases c2 : v = 86
    · subst c2
      simp only [k_100_14, k_100_16, if_true, am_cat, am_kill, Value.category, List.map_cons, List.map_nil, List.sum_cons, List.sum_nil, Option.toList_some, Option.toList_none, List.cons_append, List.nil_append, List.length_cons, List.length_nil, List.getD_cons_succ, List.getD_cons_zero, List.set_cons_succ, List.set_cons_zero, Nat.reduceAdd, Nat.reduceLT, Nat.reduceLeDiff, Nat.zero_le, Nat.zero_add, Nat.add_zero]
      simp only [k_100_19, k_100_20, k_100_24, k_100_25, k_100_26, k_100_29, k_100_30, show ¬ (1 : Int32) = 0 by decide, if_false, am_cat, am_kill, Value.category, List.map_cons, List.map_nil, List.sum_cons, List.sum_nil, Option.toList_some, Option.toList_none, List.cons_append, List.nil_append, List.length_cons, List.length_nil, List.getD_cons_succ, List.getD_cons_zero, List.set_cons_succ, List.set_cons_zero, Nat.reduceAdd, Nat.reduceLT, Nat.reduceLeDiff, Nat.zero_le, Nat.zero_add, Nat.add_zero]
      exact kg 1 (0, 86, 0) rfl (by decide) (fun B hB => Or.inr ⟨rfl, hB 0 86 rfl⟩)
    · simp only [k_100_14, k_100_16, c2, if_false, am_cat, am_kill, Value.category, List.map_cons, List.map_nil, List.sum_cons, List.sum_nil, Option.toList_some, Option.toList_none, List.cons_append, List.nil_append, List.length_cons, List.length_nil, List.getD_cons_succ, List.getD_cons_zero, List.set_cons_succ, List.set_cons_zero, Nat.reduceAdd, Nat.reduceLT, Nat.reduceLeDiff, Nat.zero_le, Nat.zero_add, Nat.add_zero]
      exact kt (fun z => c2 (by injection z))
  · simp only [k_100_0, k_100_0N, k_100_4, k_100_5, k_100_1, ogw hP, fw_1 hP, x1, e1, c1, if_false, am_cat, am_kill, Value.category, List.map_cons, List.map_nil, List.sum_cons, List.sum_nil, Option.toList_some, Option.toList_none, List.cons_append, List.nil_append, List.length_cons, List.length_nil, List.getD_cons_succ, List.getD_cons_zero, List.set_cons_succ, List.set_cons_zero, Nat.reduceAdd, Nat.reduceLT, Nat.reduceLeDiff, Nat.zero_le, Nat.zero_add, Nat.add_zero]
    exact kt (fun z => c1 (by rw [z]; rfl))
theorem mo_data (hP : P.length = 135) {x : Int32} (M : MI s n A) (K : ∀ n' A', MI (oData x s).1 n' A' → Q (some (.int (oData x s).2)) (wr P S n' A')) : wp d 101 0 [some (.ref 135), some (.int x)] [] (wr P S n A) Q := by
  have hs : sN ≤ 135 := by decide
  have hs2 : sN ≤ 139 := by decide
  obtain ⟨W, L, R, τ, D, T, tk, Ls, br⟩ := s
  obtain ⟨m0, mL, mD, mR, mt, m3, mT, m5, m6, m7, m8, m9, mx, m23⟩ := id M
  obtain ⟨x1, x2, x3⟩ := id mD
  unfold oData at K
  dsimp only at K
  have e1 : (nI D.length = 60) ↔ D.length = 60 := nI_eq (b := 60) (by omega) (by omega)
  by_cases c3 : D.length = 60
  · rw [if_pos c3] at K
    simp only [k_101_0, k_101_0N, k_101_4, k_101_6, k_101_9, k_101_11, k_101_1, ogw hP, fw_2 hP, x1, e1, c3, if_true, am_cat, am_kill, Value.category, List.map_cons, List.map_nil, List.sum_cons, List.sum_nil, Option.toList_some, Option.toList_none, List.cons_append, List.nil_append, List.length_cons, List.length_nil, List.getD_cons_succ, List.getD_cons_zero, List.set_cons_succ, List.set_cons_zero, Nat.reduceAdd, Nat.reduceLT, Nat.reduceLeDiff, Nat.zero_le, Nat.zero_add, Nat.add_zero]
    exact K n A M
  · rw [if_neg c3] at K
    simp only [k_101_0, k_101_0N, k_101_4, k_101_6, k_101_12, k_101_12N, k_101_16, k_101_16N, k_101_20, k_101_1, k_101_13, k_101_17, ogw hP, fw_2 hP, fw_13 hP, x1, e1, c3, if_false, am_cat, am_kill, Value.category, List.map_cons, List.map_nil, List.sum_cons, List.sum_nil, Option.toList_some, Option.toList_none, List.cons_append, List.nil_append, List.length_cons, List.length_nil, List.getD_cons_succ, List.getD_cons_zero, List.set_cons_succ, List.set_cons_zero, Nat.reduceAdd, Nat.reduceLT, Nat.reduceLeDiff, Nat.zero_le, Nat.zero_add, Nat.add_zero]
    rw [k_101_21 (ow_3 hP (by omega)) hs2, sw_3 hP (by omega)]
    simp only [k_101_22, k_101_22N, k_101_23, k_101_23i, k_101_27, k_101_28, k_101_32, k_101_32N, k_101_36, k_101_24, k_101_29, k_101_33, ogw hP, fw_2 hP, hw_2 hP, hs, x1, pk_us, nI_1, am_cat, am_kill, Value.category, List.map_cons, List.map_nil, List.sum_cons, List.sum_nil, Option.toList_some, Option.toList_none, List.cons_append, List.nil_append, List.length_cons, List.length_nil, List.getD_cons_succ, List.getD_cons_zero, List.set_cons_succ, List.set_cons_zero, Nat.reduceAdd, Nat.reduceLT, Nat.reduceLeDiff, Nat.zero_le, Nat.zero_add, Nat.add_zero]
    refine K _ _ ⟨by rw [pk_un (by decide)]; exact m0, mL.cg (pk_un (by decide)) (uA_r (by decide)), ⟨by rw [pk_us, List.length_append]; rfl, by rw [List.length_append]; show D.length + 1 ≤ 60; omega, fun j c hj => ?_⟩, fun r hr => (mR r hr).cg (fun j _ _ => by rw [uA_n (by decide)]) (by rw [uA_n (by decide)]), mt.cg (fun j _ => by rw [uA_n (by decide)]), by rw [pk_un (by decide)]; exact m3, mT.cg (uA_r (by decide)) (uA_r (by decide)) (uA_r (by decide)), by rw [pk_un (by decide)]; exact m5, by rw [pk_un (by decide)]; exact m6, by rw [pk_un (by decide)]; exact m7, by rw [pk_un (by decide)]; exact m8, by rw [pk_un (by decide)]; exact m9, mx.cg (uA_r (by decide)), by rw [pk_un (by decide)]; exact m23⟩
    rw [List.getElem?_append] at hj
    by_cases c4 : j < D.length
    · rw [if_pos c4] at hj
      rw [uA_m (by omega)]
      exact x3 j c hj
    · rw [if_neg c4] at hj
      have hz : j - D.length < 1 := (List.getElem?_eq_some_iff.mp hj).1
      obtain rfl : j = D.length := by omega
      rw [Nat.sub_self] at hj
      cases hj
      exact uA_s
theorem mo_clear (hP : P.length = 135) (M : MI s n A) (K : ∀ n' A', MI (oClear s).1 n' A' → Q (some (.int (oClear s).2)) (wr P S n' A')) : wp d 102 0 [some (.ref 135), none] [] (wr P S n A) Q := by
  have hs : sN ≤ 135 := by decide
  obtain ⟨W, L, R, τ, D, T, tk, Ls, br⟩ := s
  obtain ⟨m0, mL, mD, mR, mt, m3, mT, m5, m6, m7, m8, m9, mx, m23⟩ := id M
  simp only [k_102_0, k_102_0N, k_102_4, k_102_5, k_102_5N, k_102_6, k_102_10, k_102_11, k_102_1, k_102_7, ogw hP, fw_2 hP, hw_2 hP, hs, mD.1, am_cat, am_kill, Value.category, List.map_cons, List.map_nil, List.sum_cons, List.sum_nil, Option.toList_some, Option.toList_none, List.cons_append, List.nil_append, List.length_cons, List.length_nil, List.getD_cons_succ, List.getD_cons_zero, List.set_cons_succ, List.set_cons_zero, Nat.reduceAdd, Nat.reduceLT, Nat.reduceLeDiff, Nat.zero_le, Nat.zero_add, Nat.add_zero]
  exact K _ _ ⟨by rw [pk_un (by decide)]; exact m0, mL.cg (pk_un (by decide)) rfl, ⟨by rw [pk_us]; rfl, Nat.zero_le _, fun j c hj => absurd (show (none : Option Int32) = some c from hj) (by simp)⟩, mR, mt, by rw [pk_un (by decide)]; exact m3, mT, by rw [pk_un (by decide)]; exact m5, by rw [pk_un (by decide)]; exact m6, by rw [pk_un (by decide)]; exact m7, by rw [pk_un (by decide)]; exact m8, by rw [pk_un (by decide)]; exact m9, mx, by rw [pk_un (by decide)]; exact m23⟩
theorem mo_taken (hP : P.length = 135) (I : SI s) (M : MI s n A) (K : ∀ n' A', MI (oTaken s).1 n' A' → Q (some (.int (oTaken s).2)) (wr P S n' A')) : wp d 132 0 [some (.ref 135)] [] (wr P S n A) Q := by
  obtain ⟨W, L, R, τ, D, T, tk, Ls, br⟩ := s
  obtain ⟨m0, mL, mD, mR, mt, m3, mT, m5, m6, m7, m8, m9, mx, m23⟩ := id M
  have K := K n A M
  have it : tk = -1 ∨ ¬ tk < 0 := I.2.2.2.2.2.2.1
  rcases it with rfl | c
  · simp only [k_132_0, k_132_0N, k_132_4, k_132_7, k_132_8, k_132_15, k_132_1, ogw hP, fw_5 hP, m5, show (-1 : Int32) < 0 by decide, if_true, am_cat, am_kill, Value.category, List.map_cons, List.map_nil, List.sum_cons, List.sum_nil, Option.toList_some, Option.toList_none, List.cons_append, List.nil_append, List.length_cons, List.length_nil, List.getD_cons_succ, List.getD_cons_zero, List.set_cons_succ, List.set_cons_zero, Nat.reduceAdd, Nat.reduceLT, Nat.reduceLeDiff, Nat.zero_le, Nat.zero_add, Nat.add_zero]
    exact K
  · simp only [k_132_0, k_132_0N, k_132_4, k_132_11, k_132_11N, k_132_15, k_132_1, k_132_12, ogw hP, fw_5 hP, m5, c, if_false, am_cat, am_kill, Value.category, List.map_cons, List.map_nil, List.sum_cons, List.sum_nil, Option.toList_some, Option.toList_none, List.cons_append, List.nil_append, List.length_cons, List.length_nil, List.getD_cons_succ, List.getD_cons_zero, List.set_cons_succ, List.set_cons_zero, Nat.reduceAdd, Nat.reduceLT, Nat.reduceLeDiff, Nat.zero_le, Nat.zero_add, Nat.add_zero]
    exact K
theorem mo_drop (hP : P.length = 135) (M : MI s n A) (K : ∀ n' A', MI (oDrop s).1 n' A' → Q (some (.int (oDrop s).2)) (wr P S n' A')) : wp d 133 0 [some (.ref 135), none] [] (wr P S n A) Q := by
  have hs : sN ≤ 135 := by decide
  obtain ⟨W, L, R, τ, D, T, tk, Ls, br⟩ := s
  obtain ⟨m0, mL, mD, mR, mt, m3, mT, m5, m6, m7, m8, m9, mx, m23⟩ := id M
  simp only [k_133_0, k_133_0N, k_133_4, k_133_5, k_133_5N, k_133_6, k_133_10, k_133_11, k_133_1, k_133_7, ogw hP, fw_3 hP, hw_3 hP, hs, m3, am_cat, am_kill, Value.category, List.map_cons, List.map_nil, List.sum_cons, List.sum_nil, Option.toList_some, Option.toList_none, List.cons_append, List.nil_append, List.length_cons, List.length_nil, List.getD_cons_succ, List.getD_cons_zero, List.set_cons_succ, List.set_cons_zero, Nat.reduceAdd, Nat.reduceLT, Nat.reduceLeDiff, Nat.zero_le, Nat.zero_add, Nat.add_zero]
  exact K _ _ ⟨by rw [pk_un (by decide)]; exact m0, mL.cg (pk_un (by decide)) rfl, mD.cg (pk_un (by decide)) rfl, mR, mt, by rw [pk_us]; rfl, fun i b hb => absurd (show (none : Option Tst1) = some b from hb) (by simp), by rw [pk_un (by decide)]; exact m5, by rw [pk_un (by decide)]; exact m6, by rw [pk_un (by decide)]; exact m7, by rw [pk_un (by decide)]; exact m8, by rw [pk_un (by decide)]; exact m9, mx, by rw [pk_un (by decide)]; exact m23⟩
theorem mo_at (hP : P.length = 135) {x : Int32} (I : SI s) (M : MI s n A) (K : ∀ n' A', MI (oAt x s).1 n' A' → Q (some (.int (oAt x s).2)) (wr P S n' A')) : wp (d + 1) 145 0 [some (.ref 135), some (.int x)] [] (wr P S n A) Q := by
  obtain ⟨W, L, R, τ, D, T, tk, Ls, br⟩ := s
  obtain ⟨m0, mL, mD, mR, mt, m3, mT, m5, m6, m7, m8, m9, mx, m23⟩ := id M
  have K := K n A M
  unfold oAt at K
  dsimp only at K
  have it : (tx Ls).length ≤ 16800 := I.2.2.2.2.2.2.2.1
  by_cases c1 : x < 0
  · rw [if_pos c1] at K
    simp only [k_145_0, k_145_1, k_145_12, k_145_13, k_145_21, c1, if_true, am_cat, am_kill, Value.category, List.map_cons, List.map_nil, List.sum_cons, List.sum_nil, Option.toList_some, Option.toList_none, List.cons_append, List.nil_append, List.length_cons, List.length_nil, List.getD_cons_succ, List.getD_cons_zero, List.set_cons_succ, List.set_cons_zero, Nat.reduceAdd, Nat.reduceLT, Nat.reduceLeDiff, Nat.zero_le, Nat.zero_add, Nat.add_zero]
    exact K
  rw [if_neg c1] at K
  obtain ⟨m, hm, rfl⟩ := nI_of c1
  rw [nI_clamp hm] at K
  have e1 : (nI m < nI (tx Ls).length) ↔ m < (tx Ls).length := nI_ltI hm (by omega)
  by_cases c2 : m < (tx Ls).length
  · rw [List.getD_eq_getElem?_getD, List.getElem?_eq_getElem c2] at K
    have e2 : Byt (A 5 (m / 4)) (m % 4) = (tx Ls)[m] := mx m _ (List.getElem?_eq_getElem c2)
    simp only [k_145_0, k_145_1, k_145_4, k_145_5, k_145_5N, k_145_9, k_145_16, k_145_16N, k_145_17, k_145_6, k_145_18, ogw hP, ovw hP, fw_6 hP, m6, c1, e1, c2, if_true, if_false, sp_textAt hP (show m < 16800 by omega), e2, am_cat, am_kill, Value.category, List.map_cons, List.map_nil, List.sum_cons, List.sum_nil, Option.toList_some, Option.toList_none, List.cons_append, List.nil_append, List.length_cons, List.length_nil, List.getD_cons_succ, List.getD_cons_zero, List.set_cons_succ, List.set_cons_zero, Nat.reduceAdd, Nat.reduceLT, Nat.reduceLeDiff, Nat.zero_le, Nat.zero_add, Nat.add_zero]
    simp only [k_145_21, am_cat, am_kill, Value.category, List.map_cons, List.map_nil, List.sum_cons, List.sum_nil, Option.toList_some, Option.toList_none, List.cons_append, List.nil_append, List.length_cons, List.length_nil, List.getD_cons_succ, List.getD_cons_zero, List.set_cons_succ, List.set_cons_zero, Nat.reduceAdd, Nat.reduceLT, Nat.reduceLeDiff, Nat.zero_le, Nat.zero_add, Nat.add_zero]
    exact K
  · rw [List.getD_eq_getElem?_getD, List.getElem?_eq_none (by omega)] at K
    simp only [k_145_0, k_145_1, k_145_4, k_145_5, k_145_5N, k_145_9, k_145_12, k_145_13, k_145_21, k_145_6, ogw hP, fw_6 hP, m6, c1, e1, c2, if_false, am_cat, am_kill, Value.category, List.map_cons, List.map_nil, List.sum_cons, List.sum_nil, Option.toList_some, Option.toList_none, List.cons_append, List.nil_append, List.length_cons, List.length_nil, List.getD_cons_succ, List.getD_cons_zero, List.set_cons_succ, List.set_cons_zero, Nat.reduceAdd, Nat.reduceLT, Nat.reduceLeDiff, Nat.zero_le, Nat.zero_add, Nat.add_zero]
    exact K
theorem ct_loop (hP : P.length = 135) {T : List Tst1} {x : Int32} (m3 : n 3 = nI T.length) (hT : T.length ≤ 20) (mT : Tsts A T) : ∀ (j i c : Nat), i + j = T.length → c ≤ i → (wp d 147 30 [some (.ref 135), some (.int x), some (.int (nI (c + cntB (T.drop i)))), some (.int (nI T.length))] [] (wr P S n A) Q) → wp d 147 4 [some (.ref 135), some (.int x), some (.int (nI c)), some (.int (nI i))] [] (wr P S n A) Q := by
  intro j
  induction j with
  | zero =>
    intro i c hi hc K
    obtain rfl : i = T.length := by omega
    have e1 : ¬ nI T.length < nI T.length := nI_nlt (Nat.le_refl _) (by omega)
    simp only [k_147_4, k_147_5, k_147_5N, k_147_9, k_147_6, ogw hP, fw_3 hP, m3, e1, if_false, am_cat, am_kill, Value.category, List.map_cons, List.map_nil, List.sum_cons, List.sum_nil, Option.toList_some, Option.toList_none, List.cons_append, List.nil_append, List.length_cons, List.length_nil, List.getD_cons_succ, List.getD_cons_zero, List.set_cons_succ, List.set_cons_zero, Nat.reduceAdd, Nat.reduceLT, Nat.reduceLeDiff, Nat.zero_le, Nat.zero_add, Nat.add_zero]
    rw [List.drop_length] at K
    exact K
  | succ j ih =>
    intro i c hi hc K
    have hil : i < T.length := by omega
    have e1 : nI i < nI T.length := nI_lt hil (by omega)
    obtain ⟨-, t2, -⟩ := mT i T[i] (List.getElem?_eq_getElem hil)
    simp only [k_147_4, k_147_5, k_147_5N, k_147_9, k_147_12, k_147_12N, k_147_16, k_147_6, k_147_13, ogw hP, fw_3 hP, fw_17 hP, m3, e1, if_true, am_cat, am_kill, Value.category, List.map_cons, List.map_nil, List.sum_cons, List.sum_nil, Option.toList_some, Option.toList_none, List.cons_append, List.nil_append, List.length_cons, List.length_nil, List.getD_cons_succ, List.getD_cons_zero, List.set_cons_succ, List.set_cons_zero, Nat.reduceAdd, Nat.reduceLT, Nat.reduceLeDiff, Nat.zero_le, Nat.zero_add, Nat.add_zero]
    rw [k_147_17 (ow (i := 7) hP (by decide) (show i < 20 by omega) (by decide) rfl), aw_7 hP (by omega), t2]
    rw [List.drop_eq_getElem_cons hil] at K
    have eC : cntB (T[i] :: T.drop (i + 1)) = (if T[i].2 = true then 1 else 0) + cntB (T.drop (i + 1)) := rfl
    rw [eC] at K
    by_cases c2 : T[i].2 = true
    · rw [if_pos c2] at K ⊢
      simp only [k_147_18, k_147_21, k_147_24, k_147_27, show ¬ (1 : Int32) = 0 by decide, if_false, nI_1, am_cat, am_kill, Value.category, List.map_cons, List.map_nil, List.sum_cons, List.sum_nil, Option.toList_some, Option.toList_none, List.cons_append, List.nil_append, List.length_cons, List.length_nil, List.getD_cons_succ, List.getD_cons_zero, List.set_cons_succ, List.set_cons_zero, Nat.reduceAdd, Nat.reduceLT, Nat.reduceLeDiff, Nat.zero_le, Nat.zero_add, Nat.add_zero]
      refine ih (i + 1) (c + 1) (by omega) (by omega) ?_
      rw [Nat.add_assoc]
      exact K
    · rw [if_neg c2] at K ⊢
      simp only [k_147_18, k_147_24, k_147_27, if_true, nI_1, am_cat, am_kill, Value.category, List.map_cons, List.map_nil, List.sum_cons, List.sum_nil, Option.toList_some, Option.toList_none, List.cons_append, List.nil_append, List.length_cons, List.length_nil, List.getD_cons_succ, List.getD_cons_zero, List.set_cons_succ, List.set_cons_zero, Nat.reduceAdd, Nat.reduceLT, Nat.reduceLeDiff, Nat.zero_le, Nat.zero_add, Nat.add_zero]
      refine ih (i + 1) c (by omega) (by omega) ?_
      rw [Nat.zero_add] at K
      exact K
theorem mo_count (hP : P.length = 135) {x : Int32} (I : SI s) (M : MI s n A) (K : ∀ n' A', MI (oCount x s).1 n' A' → Q (some (.int (oCount x s).2)) (wr P S n' A')) : wp d 147 0 [some (.ref 135), some (.int x), none, none] [] (wr P S n A) Q := by
  obtain ⟨W, L, R, τ, D, T, tk, Ls, br⟩ := s
  obtain ⟨m0, mL, mD, mR, mt, m3, mT, m5, m6, m7, m8, m9, mx, m23⟩ := id M
  have K := K n A M
  unfold oCount at K
  dsimp only at K
  have it : T.length ≤ 20 := I.2.2.2.2.2.1.1
  simp only [k_147_0, k_147_1, k_147_2, k_147_3, am_cat, am_kill, Value.category, List.map_cons, List.map_nil, List.sum_cons, List.sum_nil, Option.toList_some, Option.toList_none, List.cons_append, List.nil_append, List.length_cons, List.length_nil, List.getD_cons_succ, List.getD_cons_zero, List.set_cons_succ, List.set_cons_zero, Nat.reduceAdd, Nat.reduceLT, Nat.reduceLeDiff, Nat.zero_le, Nat.zero_add, Nat.add_zero]
  rw [show some (Value.int (0 : Int32)) = some (.int (nI 0)) from rfl]
  refine ct_loop hP m3 it mT T.length 0 0 (by omega) (Nat.le_refl _) ?_
  rw [List.drop_zero, Nat.zero_add]
  by_cases c0 : x = 0
  · rw [if_pos c0] at K
    simp only [k_147_30, k_147_31, k_147_34, k_147_34N, k_147_38, k_147_125, k_147_35, c0, if_true, ogw hP, fw_3 hP, m3, am_cat, am_kill, Value.category, List.map_cons, List.map_nil, List.sum_cons, List.sum_nil, Option.toList_some, Option.toList_none, List.cons_append, List.nil_append, List.length_cons, List.length_nil, List.getD_cons_succ, List.getD_cons_zero, List.set_cons_succ, List.set_cons_zero, Nat.reduceAdd, Nat.reduceLT, Nat.reduceLeDiff, Nat.zero_le, Nat.zero_add, Nat.add_zero]
    exact K
  rw [if_neg c0] at K
  simp only [k_147_30, k_147_31, k_147_41, k_147_42, k_147_43, c0, if_false, am_cat, am_kill, Value.category, List.map_cons, List.map_nil, List.sum_cons, List.sum_nil, Option.toList_some, Option.toList_none, List.cons_append, List.nil_append, List.length_cons, List.length_nil, List.getD_cons_succ, List.getD_cons_zero, List.set_cons_succ, List.set_cons_zero, Nat.reduceAdd, Nat.reduceLT, Nat.reduceLeDiff, Nat.zero_le, Nat.zero_add, Nat.add_zero]
  by_cases c1 : x = 1
  · rw [if_pos c1] at K
    simp only [k_147_46, k_147_46N, k_147_50, k_147_125, k_147_47, c1, if_true, ogw hP, fw_1 hP, mL.1, am_cat, am_kill, Value.category, List.map_cons, List.map_nil, List.sum_cons, List.sum_nil, Option.toList_some, Option.toList_none, List.cons_append, List.nil_append, List.length_cons, List.length_nil, List.getD_cons_succ, List.getD_cons_zero, List.set_cons_succ, List.set_cons_zero, Nat.reduceAdd, Nat.reduceLT, Nat.reduceLeDiff, Nat.zero_le, Nat.zero_add, Nat.add_zero]
    exact K
  rw [if_neg c1] at K
  simp only [k_147_53, k_147_54, k_147_55, c1, if_false, am_cat, am_kill, Value.category, List.map_cons, List.map_nil, List.sum_cons, List.sum_nil, Option.toList_some, Option.toList_none, List.cons_append, List.nil_append, List.length_cons, List.length_nil, List.getD_cons_succ, List.getD_cons_zero, List.set_cons_succ, List.set_cons_zero, Nat.reduceAdd, Nat.reduceLT, Nat.reduceLeDiff, Nat.zero_le, Nat.zero_add, Nat.add_zero]
  by_cases c2 : x = 2
  · rw [if_pos c2] at K
    simp only [k_147_58, k_147_58N, k_147_62, k_147_125, k_147_59, c2, if_true, ogw hP, fw_2 hP, mD.1, am_cat, am_kill, Value.category, List.map_cons, List.map_nil, List.sum_cons, List.sum_nil, Option.toList_some, Option.toList_none, List.cons_append, List.nil_append, List.length_cons, List.length_nil, List.getD_cons_succ, List.getD_cons_zero, List.set_cons_succ, List.set_cons_zero, Nat.reduceAdd, Nat.reduceLT, Nat.reduceLeDiff, Nat.zero_le, Nat.zero_add, Nat.add_zero]
    exact K
  rw [if_neg c2] at K
  simp only [k_147_65, k_147_66, k_147_67, c2, if_false, am_cat, am_kill, Value.category, List.map_cons, List.map_nil, List.sum_cons, List.sum_nil, Option.toList_some, Option.toList_none, List.cons_append, List.nil_append, List.length_cons, List.length_nil, List.getD_cons_succ, List.getD_cons_zero, List.set_cons_succ, List.set_cons_zero, Nat.reduceAdd, Nat.reduceLT, Nat.reduceLeDiff, Nat.zero_le, Nat.zero_add, Nat.add_zero]
  by_cases c3 : x = 3
  · rw [if_pos c3] at K
    simp only [k_147_70, k_147_70N, k_147_74, k_147_125, k_147_71, c3, if_true, ogw hP, fw_6 hP, m6, am_cat, am_kill, Value.category, List.map_cons, List.map_nil, List.sum_cons, List.sum_nil, Option.toList_some, Option.toList_none, List.cons_append, List.nil_append, List.length_cons, List.length_nil, List.getD_cons_succ, List.getD_cons_zero, List.set_cons_succ, List.set_cons_zero, Nat.reduceAdd, Nat.reduceLT, Nat.reduceLeDiff, Nat.zero_le, Nat.zero_add, Nat.add_zero]
    exact K
  rw [if_neg c3] at K
  simp only [k_147_77, k_147_78, k_147_79, c3, if_false, am_cat, am_kill, Value.category, List.map_cons, List.map_nil, List.sum_cons, List.sum_nil, Option.toList_some, Option.toList_none, List.cons_append, List.nil_append, List.length_cons, List.length_nil, List.getD_cons_succ, List.getD_cons_zero, List.set_cons_succ, List.set_cons_zero, Nat.reduceAdd, Nat.reduceLT, Nat.reduceLeDiff, Nat.zero_le, Nat.zero_add, Nat.add_zero]
  by_cases c4 : x = 4
  · rw [if_pos c4] at K
    simp only [k_147_82, k_147_82N, k_147_86, k_147_125, k_147_83, c4, if_true, ogw hP, fw_7 hP, m7, am_cat, am_kill, Value.category, List.map_cons, List.map_nil, List.sum_cons, List.sum_nil, Option.toList_some, Option.toList_none, List.cons_append, List.nil_append, List.length_cons, List.length_nil, List.getD_cons_succ, List.getD_cons_zero, List.set_cons_succ, List.set_cons_zero, Nat.reduceAdd, Nat.reduceLT, Nat.reduceLeDiff, Nat.zero_le, Nat.zero_add, Nat.add_zero]
    exact K
  rw [if_neg c4] at K
  simp only [k_147_89, k_147_90, k_147_91, c4, if_false, am_cat, am_kill, Value.category, List.map_cons, List.map_nil, List.sum_cons, List.sum_nil, Option.toList_some, Option.toList_none, List.cons_append, List.nil_append, List.length_cons, List.length_nil, List.getD_cons_succ, List.getD_cons_zero, List.set_cons_succ, List.set_cons_zero, Nat.reduceAdd, Nat.reduceLT, Nat.reduceLeDiff, Nat.zero_le, Nat.zero_add, Nat.add_zero]
  by_cases c5 : x = 5
  · rw [if_pos c5] at K
    simp only [k_147_94, k_147_94N, k_147_98, k_147_125, k_147_95, c5, if_true, ogw hP, fw_8 hP, m8, am_cat, am_kill, Value.category, List.map_cons, List.map_nil, List.sum_cons, List.sum_nil, Option.toList_some, Option.toList_none, List.cons_append, List.nil_append, List.length_cons, List.length_nil, List.getD_cons_succ, List.getD_cons_zero, List.set_cons_succ, List.set_cons_zero, Nat.reduceAdd, Nat.reduceLT, Nat.reduceLeDiff, Nat.zero_le, Nat.zero_add, Nat.add_zero]
    exact K
  rw [if_neg c5] at K
  simp only [k_147_101, k_147_102, k_147_104, c5, if_false, am_cat, am_kill, Value.category, List.map_cons, List.map_nil, List.sum_cons, List.sum_nil, Option.toList_some, Option.toList_none, List.cons_append, List.nil_append, List.length_cons, List.length_nil, List.getD_cons_succ, List.getD_cons_zero, List.set_cons_succ, List.set_cons_zero, Nat.reduceAdd, Nat.reduceLT, Nat.reduceLeDiff, Nat.zero_le, Nat.zero_add, Nat.add_zero]
  by_cases c6 : x = 6
  · rw [if_pos c6] at K
    simp only [k_147_107, k_147_107N, k_147_111, k_147_125, k_147_108, c6, if_true, ogw hP, fw_9 hP, m9, am_cat, am_kill, Value.category, List.map_cons, List.map_nil, List.sum_cons, List.sum_nil, Option.toList_some, Option.toList_none, List.cons_append, List.nil_append, List.length_cons, List.length_nil, List.getD_cons_succ, List.getD_cons_zero, List.set_cons_succ, List.set_cons_zero, Nat.reduceAdd, Nat.reduceLT, Nat.reduceLeDiff, Nat.zero_le, Nat.zero_add, Nat.add_zero]
    exact K
  rw [if_neg c6] at K
  simp only [k_147_114, k_147_115, k_147_117, c6, if_false, am_cat, am_kill, Value.category, List.map_cons, List.map_nil, List.sum_cons, List.sum_nil, Option.toList_some, Option.toList_none, List.cons_append, List.nil_append, List.length_cons, List.length_nil, List.getD_cons_succ, List.getD_cons_zero, List.set_cons_succ, List.set_cons_zero, Nat.reduceAdd, Nat.reduceLT, Nat.reduceLeDiff, Nat.zero_le, Nat.zero_add, Nat.add_zero]
  by_cases c7 : x = 7
  · rw [if_pos c7] at K
    simp only [k_147_120, k_147_121, k_147_125, c7, if_true, am_cat, am_kill, Value.category, List.map_cons, List.map_nil, List.sum_cons, List.sum_nil, Option.toList_some, Option.toList_none, List.cons_append, List.nil_append, List.length_cons, List.length_nil, List.getD_cons_succ, List.getD_cons_zero, List.set_cons_succ, List.set_cons_zero, Nat.reduceAdd, Nat.reduceLT, Nat.reduceLeDiff, Nat.zero_le, Nat.zero_add, Nat.add_zero]
    exact K
  rw [if_neg c7] at K
  simp only [k_147_124, k_147_125, c7, if_false, am_cat, am_kill, Value.category, List.map_cons, List.map_nil, List.sum_cons, List.sum_nil, Option.toList_some, Option.toList_none, List.cons_append, List.nil_append, List.length_cons, List.length_nil, List.getD_cons_succ, List.getD_cons_zero, List.set_cons_succ, List.set_cons_zero, Nat.reduceAdd, Nat.reduceLT, Nat.reduceLeDiff, Nat.zero_le, Nat.zero_add, Nat.add_zero]
  exact K
theorem ln_one (hP : P.length = 135) {j : Nat} (hj : j < 20000) : ∀ (l : List Int32) (p : Nat) (o1 : Option Value), (∀ (q : Nat) (c : Int32), (l ++ [10])[q]? = some c → Tx A (p + q) = c) → (∀ c ∈ l, c ≠ 10) → p + l.length + 1 ≤ 16800 → (∀ o1, wp (d + 1) 146 18 [some (.ref 135), o1, some (.int (nI j)), some (.int (nI (p + l.length + 1)))] [] (wr P S n A) Q) → wp (d + 1) 146 18 [some (.ref 135), o1, some (.int (nI (j + 1))), some (.int (nI p))] [] (wr P S n A) Q := by
  intro l
  have e1 : (0 : Int32) < nI (j + 1) := nI_lt (a := 0) (by omega) (by omega)
  induction l with
  | nil =>
    intro p o1 hA _ hb K
    have e2 : Byt (A 5 (p / 4)) (p % 4) = 10 := hA 0 10 rfl
    simp only [k_146_18, k_146_19, k_146_22, k_146_22N, k_146_23, k_146_24, e1, if_true, ovw hP, sp_textAt hP (show p < 16800 by simp only [List.length_nil] at hb; omega), e2, am_cat, am_kill, Value.category, List.map_cons, List.map_nil, List.sum_cons, List.sum_nil, Option.toList_some, Option.toList_none, List.cons_append, List.nil_append, List.length_cons, List.length_nil, List.getD_cons_succ, List.getD_cons_zero, List.set_cons_succ, List.set_cons_zero, Nat.reduceAdd, Nat.reduceLT, Nat.reduceLeDiff, Nat.zero_le, Nat.zero_add, Nat.add_zero]
    simp only [k_146_27, k_146_29, k_146_32, k_146_35, k_146_38, if_true, pk_m1, nI_1, am_cat, am_kill, Value.category, List.map_cons, List.map_nil, List.sum_cons, List.sum_nil, Option.toList_some, Option.toList_none, List.cons_append, List.nil_append, List.length_cons, List.length_nil, List.getD_cons_succ, List.getD_cons_zero, List.set_cons_succ, List.set_cons_zero, Nat.reduceAdd, Nat.reduceLT, Nat.reduceLeDiff, Nat.zero_le, Nat.zero_add, Nat.add_zero]
    exact K _
  | cons c r ih =>
    intro p o1 hA hn hb K
    rw [List.length_cons] at hb
    have e2 : Byt (A 5 (p / 4)) (p % 4) = c := hA 0 c rfl
    have e3 : ¬ c = 10 := hn c (List.mem_cons_self)
    simp only [k_146_18, k_146_19, k_146_22, k_146_22N, k_146_23, k_146_24, e1, if_true, ovw hP, sp_textAt hP (show p < 16800 by omega), e2, am_cat, am_kill, Value.category, List.map_cons, List.map_nil, List.sum_cons, List.sum_nil, Option.toList_some, Option.toList_none, List.cons_append, List.nil_append, List.length_cons, List.length_nil, List.getD_cons_succ, List.getD_cons_zero, List.set_cons_succ, List.set_cons_zero, Nat.reduceAdd, Nat.reduceLT, Nat.reduceLeDiff, Nat.zero_le, Nat.zero_add, Nat.add_zero]
    simp only [k_146_27, k_146_29, k_146_35, k_146_38, e3, if_false, nI_1, am_cat, am_kill, Value.category, List.map_cons, List.map_nil, List.sum_cons, List.sum_nil, Option.toList_some, Option.toList_none, List.cons_append, List.nil_append, List.length_cons, List.length_nil, List.getD_cons_succ, List.getD_cons_zero, List.set_cons_succ, List.set_cons_zero, Nat.reduceAdd, Nat.reduceLT, Nat.reduceLeDiff, Nat.zero_le, Nat.zero_add, Nat.add_zero]
    refine ih (p + 1) _ (fun q c hq => ?_) (fun c hc => hn c (List.mem_cons_of_mem _ hc)) (by omega) (fun o => ?_)
    · rw [show p + 1 + q = p + (q + 1) by omega]
      exact hA (q + 1) c (by rw [List.cons_append, List.getElem?_cons_succ]; exact hq)
    · have := K o
      rw [List.length_cons] at this
      rw [show p + 1 + r.length + 1 = p + (r.length + 1) + 1 by omega]
      exact this
theorem ln_all (hP : P.length = 135) : ∀ (ll : List (List Int32)) (p : Nat) (o1 : Option Value), (∀ (q : Nat) (c : Int32), (tx ll)[q]? = some c → Tx A (p + q) = c) → (∀ l ∈ ll, ∀ c ∈ l, c ≠ 10) → p + (tx ll).length ≤ 16800 → Q (some (.int (nI (p + (tx ll).length)))) (wr P S n A) → wp (d + 1) 146 18 [some (.ref 135), o1, some (.int (nI ll.length)), some (.int (nI p))] [] (wr P S n A) Q := by
  intro ll
  induction ll with
  | nil =>
    intro p o1 hA hn hb K
    have e1 : ¬ (0 : Int32) < nI ([] : List (List Int32)).length := by decide
    simp only [k_146_18, k_146_19, e1, if_false]
    simp only [k_146_41, k_146_42]
    exact K
  | cons l r ih =>
    intro p o1 hA hn hb K
    have et : tx (l :: r) = (l ++ [10]) ++ tx r := rfl
    have hg := tx_ge r
    rw [et] at hA hb K
    rw [List.length_append, List.length_append] at hb K
    have hb' : p + (l.length + 1 + (tx r).length) ≤ 16800 := hb
    rw [List.length_cons]
    refine ln_one hP (by omega) l p o1 (fun q c hq => hA q c (by rw [List.getElem?_append_left (List.getElem?_eq_some_iff.mp hq).1]; exact hq)) (hn l List.mem_cons_self) (by omega) (fun o => ?_)
    refine ih _ o (fun q c hq => ?_) (fun x hx => hn x (List.mem_cons_of_mem _ hx)) (by omega) ?_
    · rw [show p + l.length + 1 + q = p + (l.length + 1 + q) by omega]
      refine hA _ c ?_
      rw [List.getElem?_append_right (by rw [List.length_append]; show l.length + 1 ≤ _; omega), List.length_append, show l.length + 1 + q - (l.length + [(10 : Int32)].length) = q by show l.length + 1 + q - (l.length + 1) = q; omega]
      exact hq
    · have K' : Q (some (.int (nI (p + (l.length + 1 + (tx r).length))))) (wr P S n A) := K
      rw [show p + l.length + 1 + (tx r).length = p + (l.length + 1 + (tx r).length) by omega]
      exact K'
theorem mo_line (hP : P.length = 135) {x : Int32} (I : SI s) (M : MI s n A) (K : ∀ n' A', MI (oLine x s).1 n' A' → Q (some (.int (oLine x s).2)) (wr P S n' A')) : wp (d + 1) 146 0 [some (.ref 135), some (.int x), none, none] [] (wr P S n A) Q := by
  obtain ⟨W, L, R, τ, D, T, tk, Ls, br⟩ := s
  obtain ⟨m0, mL, mD, mR, mt, m3, mT, m5, m6, m7, m8, m9, mx, m23⟩ := id M
  have K := K n A M
  unfold oLine at K
  dsimp only at K
  have it : (tx Ls).length ≤ 16800 := I.2.2.2.2.2.2.2.1
  have ic : ∀ l ∈ Ls, ∀ c ∈ l, asc c ∧ c ≠ 10 := I.2.2.2.2.2.2.2.2
  have hg := tx_ge Ls
  by_cases c1 : x < 0
  · rw [if_pos c1] at K
    simp only [k_146_0, k_146_1, k_146_12, k_146_13, c1, if_true, am_cat, am_kill, Value.category, List.map_cons, List.map_nil, List.sum_cons, List.sum_nil, Option.toList_some, Option.toList_none, List.cons_append, List.nil_append, List.length_cons, List.length_nil, List.getD_cons_succ, List.getD_cons_zero, List.set_cons_succ, List.set_cons_zero, Nat.reduceAdd, Nat.reduceLT, Nat.reduceLeDiff, Nat.zero_le, Nat.zero_add, Nat.add_zero]
    exact K
  rw [if_neg c1] at K
  obtain ⟨m, hm, rfl⟩ := nI_of c1
  rw [nI_clamp hm] at K
  have e1 : (nI m < nI Ls.length) ↔ m < Ls.length := nI_ltI hm (by omega)
  by_cases c2 : m < Ls.length
  · rw [if_pos c2] at K
    simp only [k_146_0, k_146_1, k_146_4, k_146_5, k_146_5N, k_146_9, k_146_14, k_146_15, k_146_16, k_146_17, k_146_6, ogw hP, fw_7 hP, m7, c1, e1, c2, if_true, if_false, am_cat, am_kill, Value.category, List.map_cons, List.map_nil, List.sum_cons, List.sum_nil, Option.toList_some, Option.toList_none, List.cons_append, List.nil_append, List.length_cons, List.length_nil, List.getD_cons_succ, List.getD_cons_zero, List.set_cons_succ, List.set_cons_zero, Nat.reduceAdd, Nat.reduceLT, Nat.reduceLeDiff, Nat.zero_le, Nat.zero_add, Nat.add_zero]
    have eT : tx Ls = tx (Ls.take m) ++ tx (Ls.drop m) := by rw [← tx_app2, List.take_append_drop]
    have hl : (tx (Ls.take m)).length ≤ (tx Ls).length := by rw [eT, List.length_append]; omega
    have h2 := ln_all (P := P) (S := S) (n := n) (A := A) (d := d) (Q := Q) hP (Ls.take m) 0 (am_kill (some (Value.int (nI m)))) (fun q c hq => by rw [Nat.zero_add]; exact mx q c (by rw [eT, List.getElem?_append_left (List.getElem?_eq_some_iff.mp hq).1]; exact hq)) (fun l hl c hc => (ic l (List.mem_of_mem_take hl) c hc).2) (by omega) (by rw [Nat.zero_add]; exact K)
    rw [List.length_take, Nat.min_eq_left (by omega)] at h2
    exact h2
  · rw [if_neg c2] at K
    simp only [k_146_0, k_146_1, k_146_4, k_146_5, k_146_5N, k_146_9, k_146_12, k_146_13, k_146_6, ogw hP, fw_7 hP, m7, c1, e1, c2, if_false, am_cat, am_kill, Value.category, List.map_cons, List.map_nil, List.sum_cons, List.sum_nil, Option.toList_some, Option.toList_none, List.cons_append, List.nil_append, List.length_cons, List.length_nil, List.getD_cons_succ, List.getD_cons_zero, List.set_cons_succ, List.set_cons_zero, Nat.reduceAdd, Nat.reduceLT, Nat.reduceLeDiff, Nat.zero_le, Nat.zero_add, Nat.add_zero]
    exact K
end MO
