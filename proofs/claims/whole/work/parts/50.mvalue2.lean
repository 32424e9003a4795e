/-! THE REFERENCE'S VALUES, on -/
theorem split_ends {α : Type} {n : Nat} {v : List α} (hv : v.length = n + 2) : ∃ a m b, v = a :: (m ++ [b]) ∧ m.length = n := by
  cases v with
  | nil => simp at hv
  | cons a r =>
    have hr : r ≠ [] := fun e => by rw [e] at hv; simp at hv
    refine ⟨a, r.dropLast, r.getLast hr, by rw [List.dropLast_concat_getLast], ?_⟩
    rw [List.length_dropLast]
    rw [List.length_cons] at hv
    omega
theorem set_two {α : Type} {pre m suf : List α} {a b : α} : ((pre ++ (a :: (m ++ (b :: suf)))).set pre.length b).set (pre.length + (m.length + 1)) a = (pre ++ [b]) ++ (m ++ (a :: suf)) := by
  rw [List.set_append_right _ _ (Nat.le_refl _), Nat.sub_self, List.set_cons_zero, List.set_append_right _ _ (by omega), Nat.add_sub_cancel_left, List.set_cons_succ, List.set_append_right _ _ (Nat.le_refl _), Nat.sub_self, List.set_cons_zero, List.append_assoc]
  rfl
theorem get_two1 {α : Type} {pre r : List α} {a : α} : (pre ++ (a :: r))[pre.length]? = some a := by
  rw [List.getElem?_append_right (Nat.le_refl _), Nat.sub_self]
  rfl
theorem get_two2 {α : Type} {pre m suf : List α} {a b : α} : (pre ++ (a :: (m ++ (b :: suf))))[pre.length + (m.length + 1)]? = some b := by
  rw [List.getElem?_append_right (by omega), Nat.add_sub_cancel_left, List.getElem?_cons_succ, List.getElem?_append_right (Nat.le_refl _), Nat.sub_self]
  rfl
theorem get_two3 {α : Type} {pre m suf : List α} {a b : α} : ((pre ++ (a :: (m ++ (b :: suf)))).set pre.length b)[pre.length + (m.length + 1)]? = some b := by
  rw [List.getElem?_set_ne (by omega)]
  exact get_two2
theorem nlt_pred {i : Nat} (hi : i < 1000) : ¬ nI i < nI i - 1 := by
  cases i with
  | zero => decide
  | succ i => rw [nI_pred]; exact nI_nlt (by omega) (by omega)
section MVB
variable {P S h : AH} {n0 : Nat → Int32} {A0 : Nat → Nat → Int32} {k u ar d : Nat} {t w D : List Int32} {nl x : Int32} {o1 : Option Value} {R : List (List Ty)} {Q : Option Value → AH → Prop}
theorem mi_rev (hP : P.length = 135) {v1 v2 v3 : Option Value} {b0 : Int32} : ∀ (N : Nat) (v pre suf : List Int32) (i J : Int32) (h : AH) (o : Option Value), v.length = N → i = nI pre.length → J = nI (pre.length + N) - 1 → pre.length + N + suf.length < 400 → MS P S n0 A0 k t u ar (pre ++ (v ++ suf)) nl h → (∀ h', MS P S n0 A0 k t u ar (pre ++ (v.reverse ++ suf)) nl h' → Q none h') → wp d 107 105 [some (.ref 135), v1, v2, v3, some (.int b0), some (.int i), some (.int J), o] [] h Q := by
  have hs : sN ≤ 146 := by decide
  intro N
  induction N using Nat.strongRecOn with
  | _ N ih =>
    intro v pre suf i J h o hv hi hJ hb M K
    by_cases c2 : N < 2
    · have e1 : ¬ i < J := by
        rw [hi, hJ]
        by_cases c1 : N = 0
        · rw [c1, Nat.add_zero]
          exact nlt_pred (by omega)
        · rw [show pre.length + N = pre.length + 1 by omega, nI_pred]
          exact nI_nlt (Nat.le_refl _) (by omega)
      have e2 : v.reverse = v := by
        match v, hv with
        | [], _ => rfl
        | [a], _ => rfl
        | a :: b :: r, hv => simp at hv; omega
      simp only [k_107_105, k_107_107, k_107_109, k_107_153, e1, if_false, am_cat, am_kill, Value.category, List.map_cons, List.map_nil, List.sum_cons, List.sum_nil, Option.toList_some, Option.toList_none, List.cons_append, List.nil_append, List.length_cons, List.length_nil, List.getD_cons_succ, List.getD_cons_zero, List.set_cons_succ, List.set_cons_zero, Nat.reduceAdd, Nat.reduceLT, Nat.reduceLeDiff, Nat.zero_le, Nat.zero_add, Nat.add_zero]
      rw [e2] at K
      exact K h M
    · obtain ⟨n, rfl⟩ : ∃ n, N = n + 2 := ⟨N - 2, by omega⟩
      obtain ⟨a, m, b, rfl, hm⟩ := split_ends hv
      have eW : pre ++ ((a :: (m ++ [b])) ++ suf) = pre ++ (a :: (m ++ (b :: suf))) := by simp
      rw [eW] at M
      have eJ : J = nI (pre.length + (m.length + 1)) := by rw [hJ, show pre.length + (n + 2) = pre.length + (m.length + 1) + 1 by omega, nI_pred]
      subst hi
      subst eJ
      have e1 : nI pre.length < nI (pre.length + (m.length + 1)) := nI_lt (by omega) (by omega)
      have q1 := M.rd10 hP (j := pre.length) (by omega) get_two1
      simp only [k_107_105, k_107_107, k_107_109, k_107_112, k_107_112N, k_107_116, k_107_113, e1, if_true, M.og hP, M.f22 hP, am_cat, am_kill, Value.category, List.map_cons, List.map_nil, List.sum_cons, List.sum_nil, Option.toList_some, Option.toList_none, List.cons_append, List.nil_append, List.length_cons, List.length_nil, List.getD_cons_succ, List.getD_cons_zero, List.set_cons_succ, List.set_cons_zero, Nat.reduceAdd, Nat.reduceLT, Nat.reduceLeDiff, Nat.zero_le, Nat.zero_add, Nat.add_zero]
      rw [k_107_118 q1.1, q1.2]
      have q2 := M.rd10 hP (j := pre.length + (m.length + 1)) (by omega) get_two2
      simp only [k_107_119, k_107_121, k_107_121N, k_107_125, k_107_127, k_107_127N, k_107_131, k_107_122, k_107_128, M.og hP, M.f22 hP, am_cat, am_kill, Value.category, List.map_cons, List.map_nil, List.sum_cons, List.sum_nil, Option.toList_some, Option.toList_none, List.cons_append, List.nil_append, List.length_cons, List.length_nil, List.getD_cons_succ, List.getD_cons_zero, List.set_cons_succ, List.set_cons_zero, Nat.reduceAdd, Nat.reduceLT, Nat.reduceLeDiff, Nat.zero_le, Nat.zero_add, Nat.add_zero]
      rw [k_107_133 q2.1, q2.2]
      have s1 := M.set10 hP (j := pre.length) (y := b) (by omega)
      rw [k_107_134 s1.1 hs]
      have M1 := s1.2
      generalize hast h 146 (nI pre.length) (.int b) = h1 at M1
      simp only [k_107_135, k_107_135N, k_107_139, k_107_141, k_107_136, M1.og hP, M1.f22 hP, am_cat, am_kill, Value.category, List.map_cons, List.map_nil, List.sum_cons, List.sum_nil, Option.toList_some, Option.toList_none, List.cons_append, List.nil_append, List.length_cons, List.length_nil, List.getD_cons_succ, List.getD_cons_zero, List.set_cons_succ, List.set_cons_zero, Nat.reduceAdd, Nat.reduceLT, Nat.reduceLeDiff, Nat.zero_le, Nat.zero_add, Nat.add_zero]
      have s2 := M1.set10 hP (j := pre.length + (m.length + 1)) (y := a) (by omega)
      rw [k_107_143 s2.1 hs]
      have M2 := s2.2
      rw [set_two] at M2
      generalize hast h1 146 (nI (pre.length + (m.length + 1))) (.int a) = h2 at M2
      simp only [k_107_144, k_107_147, k_107_150, nI_1, am_cat, am_kill, Value.category, List.map_cons, List.map_nil, List.sum_cons, List.sum_nil, Option.toList_some, Option.toList_none, List.cons_append, List.nil_append, List.length_cons, List.length_nil, List.getD_cons_succ, List.getD_cons_zero, List.set_cons_succ, List.set_cons_zero, Nat.reduceAdd, Nat.reduceLT, Nat.reduceLeDiff, Nat.zero_le, Nat.zero_add, Nat.add_zero]
      refine ih n (by omega) m (pre ++ [b]) (a :: suf) _ _ h2 _ hm ?_ ?_ ?_ M2 (fun h' M' => K h' ?_)
      · rw [List.length_append]; rfl
      · rw [List.length_append, ← Nat.add_assoc, pk_m1]
        show nI (pre.length + m.length) = nI (pre.length + 1 + n) - 1
        rw [show pre.length + 1 + n = pre.length + m.length + 1 by omega, nI_pred]
      · rw [List.length_append, List.length_cons]
        show pre.length + 1 + n + (suf.length + 1) < 400
        rw [List.length_cons, List.length_append] at hv
        omega
      · rw [show pre ++ ((a :: (m ++ [b])).reverse ++ suf) = (pre ++ [b]) ++ (m.reverse ++ (a :: suf)) by simp]
        exact M'
theorem mi_planRow (hP : P.length = 135) {r : Nat} (hr : r < 5) (X : Mrw A0 R r) (M : MS P S n0 A0 k t u ar w nl h) (hb : w.length + 12 < 400) (K : ∀ h', MS P S n0 A0 k t u ar (w ++ (ftk (R.getD r []) 0 (r * 40)).reverse) nl h' → Q none h') : wp (d + 1) 107 0 [some (.ref 135), some (.int (nI r)), none, none, none, none, none, none] [] h Q := by
  obtain ⟨x1, x2, x3, x4, x5⟩ := X
  have e40 : nI r * 40 = nI (r * 40) := nI_mul r 40
  simp only [k_107_0, k_107_1, k_107_2, k_107_3, k_107_5, k_107_6, k_107_7, k_107_7N, k_107_11, k_107_8, M.og hP, M.f23 hP, e40, am_cat, am_kill, Value.category, List.map_cons, List.map_nil, List.sum_cons, List.sum_nil, Option.toList_some, Option.toList_none, List.cons_append, List.nil_append, List.length_cons, List.length_nil, List.getD_cons_succ, List.getD_cons_zero, List.set_cons_succ, List.set_cons_zero, Nat.reduceAdd, Nat.reduceLT, Nat.reduceLeDiff, Nat.zero_le, Nat.zero_add, Nat.add_zero]
  refine mi_pr_loop (e := tot (R.getD r [])) hP hr x5 x1 (R.getD r []) 0 (r * 40) w h x2 x4 rfl (by omega) M (by omega) (fun h1 i' p' M1 => ?_)
  have fl := ftk_len (R.getD r []) 0 (r * 40)
  simp only [k_107_93, k_107_95, k_107_97, k_107_97N, k_107_101, k_107_102, k_107_103, k_107_98, M1.og hP, M1.f23 hP, am_cat, am_kill, Value.category, List.map_cons, List.map_nil, List.sum_cons, List.sum_nil, Option.toList_some, Option.toList_none, List.cons_append, List.nil_append, List.length_cons, List.length_nil, List.getD_cons_succ, List.getD_cons_zero, List.set_cons_succ, List.set_cons_zero, Nat.reduceAdd, Nat.reduceLT, Nat.reduceLeDiff, Nat.zero_le, Nat.zero_add, Nat.add_zero]
  refine mi_rev hP (ftk (R.getD r []) 0 (r * 40)).length (ftk (R.getD r []) 0 (r * 40)) w [] _ _ h1 _ rfl rfl (by rw [List.length_append]) (by rw [List.length_nil]; omega) (by rw [List.append_nil]; exact M1) (fun h2 M2 => K h2 ?_)
  rw [List.append_nil] at M2
  exact M2
theorem mv_head (hP : P.length = 135) {p : Nat} {o2 : Option Value} (hp : p < 240) (M : MS P S n0 A0 k t u ar w nl h) (K : ∀ h', MS P S n0 A0 k t u ar w 0 h' → wp d 110 12 [some (.ref 135), some (.int (nI p)), am_kill o2, some (.int (A0 1 p))] [] h' Q) : wp d 110 0 [some (.ref 135), some (.int (nI p)), o2, none] [] h Q := by
  have hs : sN ≤ 135 := by decide
  have r1 := M.rd1 hP hp
  simp only [k_110_0, k_110_0N, k_110_4, k_110_1, M.og hP, M.f11 hP, am_cat, am_kill, Value.category, List.map_cons, List.map_nil, List.sum_cons, List.sum_nil, Option.toList_some, Option.toList_none, List.cons_append, List.nil_append, List.length_cons, List.length_nil, List.getD_cons_succ, List.getD_cons_zero, List.set_cons_succ, List.set_cons_zero, Nat.reduceAdd, Nat.reduceLT, Nat.reduceLeDiff, Nat.zero_le, Nat.zero_add, Nat.add_zero]
  rw [k_110_5 r1.1, r1.2]
  obtain ⟨n, A, rfl, M2⟩ := mi_nullset (x := 0) hP M
  rw [k_110_6, k_110_7, k_110_8, k_110_9 nb0 fb0 ((ogw hP).mpr (by decide)) hs, hw_24 hP]
  exact K _ M2
theorem mv_leaf (hP : P.length = 135) (hk : k < 4) {p : Nat} {c : Int32} {o2 : Int32} (hp : p < 240) (hc : A0 1 p = c) (hl : c ∈ sgl) (X : Mst n0 A0 D) (hu : u < 2 ^ 28) (M : MS P S n0 A0 k t u ar w nl h) (hb : t.length < 2 ^ 26) (K : ∀ h', MS P S n0 A0 k (t ++ (litS D c u).1) (litS D c u).2 ar w (if (litS D c u).1 = sx 4 then 1 else 0) h' → Q none h') : wp (d + 5) 110 0 [some (.ref 135), some (.int (nI p)), some (.int o2), none] [] h Q := by
  refine mv_head hP hp M (fun h1 M1 => ?_)
  rw [hc]
  have ln := litS_ne (D := D) (c := c) (u := u) hl
  simp only [k_110_12, k_110_13, k_110_15, k_110_27, k_110_28, k_110_30, k_110_51, k_110_52, k_110_54, k_110_83, k_110_84, k_110_86, k_110_96, k_110_97, k_110_99, k_110_124, k_110_125, k_110_127, k_110_142, k_110_143, k_110_145, k_110_155, k_110_156, k_110_158, am_cat, am_kill, Value.category, List.map_cons, List.map_nil, List.sum_cons, List.sum_nil, Option.toList_some, Option.toList_none, List.cons_append, List.nil_append, List.length_cons, List.length_nil, List.getD_cons_succ, List.getD_cons_zero, List.set_cons_succ, List.set_cons_zero, Nat.reduceAdd, Nat.reduceLT, Nat.reduceLeDiff, Nat.zero_le, Nat.zero_add, Nat.add_zero]
  have hl : c = 90 ∨ c = 66 ∨ c = 67 ∨ c = 83 ∨ c = 73 ∨ c = 74 ∨ c = 70 ∨ c = 68 ∨ c = 84 := by simpa [sgl] using hl
  clear hc
  rcases hl with rfl | rfl | rfl | rfl | rfl | rfl | rfl | rfl | rfl
  all_goals repeat (first | rw [if_pos rfl] | rw [if_neg (by decide)])
  · rw [if_neg (ln (fun e => absurd e (by decide)))] at K
    have e : litS D 90 u = ((if nx D u &&& 1 = 0 then sx 18 else sx 17), u + 1) := rfl
    rw [e] at K
    dsimp only at K
    simp only [k_110_57, k_110_57N, k_110_58, k_110_58N, k_110_59, M1.ov hP, am_cat, am_kill, Value.category, List.map_cons, List.map_nil, List.sum_cons, List.sum_nil, Option.toList_some, Option.toList_none, List.cons_append, List.nil_append, List.length_cons, List.length_nil, List.getD_cons_succ, List.getD_cons_zero, List.set_cons_succ, List.set_cons_zero, Nat.reduceAdd, Nat.reduceLT, Nat.reduceLeDiff, Nat.zero_le, Nat.zero_add, Nat.add_zero]
    refine mi_next hP X M1 (by omega) (fun h2 M2 => ?_)
    obtain ⟨j, hj, ej⟩ := pk_andE (nx D u) (m := 1) 1 (by decide)
    have e1 : (nx D u &&& 1 = 1) ↔ ¬ (nx D u &&& 1 = 0) := by
      rw [ej]
      have a1 : (nI j = 1) ↔ j = 1 := nI_eq (b := 1) (by omega) (by omega)
      have a0 : (nI j = 0) ↔ j = 0 := nI_eq (b := 0) (by omega) (by omega)
      rw [a1, a0]
      omega
    simp only [k_110_62, k_110_63, k_110_64, k_110_65, e1, am_cat, am_kill, Value.category, List.map_cons, List.map_nil, List.sum_cons, List.sum_nil, Option.toList_some, Option.toList_none, List.cons_append, List.nil_append, List.length_cons, List.length_nil, List.getD_cons_succ, List.getD_cons_zero, List.set_cons_succ, List.set_cons_zero, Nat.reduceAdd, Nat.reduceLT, Nat.reduceLeDiff, Nat.zero_le, Nat.zero_add, Nat.add_zero]
    by_cases c1 : nx D u &&& 1 = 0
    · rw [if_pos c1] at K
      rw [if_neg (fun z => z c1)]
      simp only [k_110_74, k_110_77, M2.ov hP, am_cat, am_kill, Value.category, List.map_cons, List.map_nil, List.sum_cons, List.sum_nil, Option.toList_some, Option.toList_none, List.cons_append, List.nil_append, List.length_cons, List.length_nil, List.getD_cons_succ, List.getD_cons_zero, List.set_cons_succ, List.set_cons_zero, Nat.reduceAdd, Nat.reduceLT, Nat.reduceLeDiff, Nat.zero_le, Nat.zero_add, Nat.add_zero]
      refine mi_wordc hP hk (sx 18) (by decide) M2 (by omega) (fun h3 M3 => ?_)
      simp only [k_110_80, k_110_194, am_cat, am_kill, Value.category, List.map_cons, List.map_nil, List.sum_cons, List.sum_nil, Option.toList_some, Option.toList_none, List.cons_append, List.nil_append, List.length_cons, List.length_nil, List.getD_cons_succ, List.getD_cons_zero, List.set_cons_succ, List.set_cons_zero, Nat.reduceAdd, Nat.reduceLT, Nat.reduceLeDiff, Nat.zero_le, Nat.zero_add, Nat.add_zero]
      exact K h3 M3
    · rw [if_neg c1] at K
      rw [if_pos c1]
      simp only [k_110_71, k_110_68, k_110_77, M2.ov hP, am_cat, am_kill, Value.category, List.map_cons, List.map_nil, List.sum_cons, List.sum_nil, Option.toList_some, Option.toList_none, List.cons_append, List.nil_append, List.length_cons, List.length_nil, List.getD_cons_succ, List.getD_cons_zero, List.set_cons_succ, List.set_cons_zero, Nat.reduceAdd, Nat.reduceLT, Nat.reduceLeDiff, Nat.zero_le, Nat.zero_add, Nat.add_zero]
      refine mi_wordc hP hk (sx 17) (by decide) M2 (by omega) (fun h3 M3 => ?_)
      simp only [k_110_80, k_110_194, am_cat, am_kill, Value.category, List.map_cons, List.map_nil, List.sum_cons, List.sum_nil, Option.toList_some, Option.toList_none, List.cons_append, List.nil_append, List.length_cons, List.length_nil, List.getD_cons_succ, List.getD_cons_zero, List.set_cons_succ, List.set_cons_zero, Nat.reduceAdd, Nat.reduceLT, Nat.reduceLeDiff, Nat.zero_le, Nat.zero_add, Nat.add_zero]
      exact K h3 M3
  · rw [if_neg (ln (fun e => absurd e (by decide)))] at K
    simp only [k_110_189, k_110_189N, k_110_190, k_110_191, M1.ov hP, am_cat, am_kill, Value.category, List.map_cons, List.map_nil, List.sum_cons, List.sum_nil, Option.toList_some, Option.toList_none, List.cons_append, List.nil_append, List.length_cons, List.length_nil, List.getD_cons_succ, List.getD_cons_zero, List.set_cons_succ, List.set_cons_zero, Nat.reduceAdd, Nat.reduceLT, Nat.reduceLeDiff, Nat.zero_le, Nat.zero_add, Nat.add_zero]
    refine mi_whole hP hk (Or.inl rfl) X (by omega) M1 (by omega) (fun h2 M2 => ?_)
    simp only [k_110_194, am_cat, am_kill, Value.category, List.map_cons, List.map_nil, List.sum_cons, List.sum_nil, Option.toList_some, Option.toList_none, List.cons_append, List.nil_append, List.length_cons, List.length_nil, List.getD_cons_succ, List.getD_cons_zero, List.set_cons_succ, List.set_cons_zero, Nat.reduceAdd, Nat.reduceLT, Nat.reduceLeDiff, Nat.zero_le, Nat.zero_add, Nat.add_zero]
    exact K h2 M2
  · rw [if_neg (ln (fun e => absurd e (by decide)))] at K
    have e : litS D 67 u = ([39] ++ (chE (nx D u &&& 65535) 39 ++ [39]), u + 1) := rfl
    rw [e] at K
    dsimp only at K
    have s1 := chE_len (nx D u &&& 65535) 39
    simp only [k_110_161, k_110_161N, k_110_162, k_110_164, M1.ov hP, am_cat, am_kill, Value.category, List.map_cons, List.map_nil, List.sum_cons, List.sum_nil, Option.toList_some, Option.toList_none, List.cons_append, List.nil_append, List.length_cons, List.length_nil, List.getD_cons_succ, List.getD_cons_zero, List.set_cons_succ, List.set_cons_zero, Nat.reduceAdd, Nat.reduceLT, Nat.reduceLeDiff, Nat.zero_le, Nat.zero_add, Nat.add_zero]
    refine mi_put hP hk ⟨by decide, by decide⟩ M1 (by omega) (fun h2 M2 => ?_)
    simp only [k_110_167, k_110_167N, k_110_168, k_110_168N, k_110_169, M2.ov hP, am_cat, am_kill, Value.category, List.map_cons, List.map_nil, List.sum_cons, List.sum_nil, Option.toList_some, Option.toList_none, List.cons_append, List.nil_append, List.length_cons, List.length_nil, List.getD_cons_succ, List.getD_cons_zero, List.set_cons_succ, List.set_cons_zero, Nat.reduceAdd, Nat.reduceLT, Nat.reduceLeDiff, Nat.zero_le, Nat.zero_add, Nat.add_zero]
    refine mi_next hP X M2 (by omega) (fun h3 M3 => ?_)
    obtain ⟨y, hy, ey⟩ := pk_andE (nx D u) (m := 65535) 16 (by decide)
    have hch : chr (nx D u &&& 65535) := by rw [ey]; exact chr_nI hy
    simp only [k_110_174, k_110_175, k_110_172, k_110_177, M3.ov hP, am_cat, am_kill, Value.category, List.map_cons, List.map_nil, List.sum_cons, List.sum_nil, Option.toList_some, Option.toList_none, List.cons_append, List.nil_append, List.length_cons, List.length_nil, List.getD_cons_succ, List.getD_cons_zero, List.set_cons_succ, List.set_cons_zero, Nat.reduceAdd, Nat.reduceLT, Nat.reduceLeDiff, Nat.zero_le, Nat.zero_add, Nat.add_zero]
    refine mi_char hP hk hch (Or.inl rfl) M3 (by rw [List.length_append]; show t.length + 1 < _; omega) (fun h4 M4 => ?_)
    simp only [k_110_180, k_110_180N, k_110_181, k_110_183, M4.ov hP, am_cat, am_kill, Value.category, List.map_cons, List.map_nil, List.sum_cons, List.sum_nil, Option.toList_some, Option.toList_none, List.cons_append, List.nil_append, List.length_cons, List.length_nil, List.getD_cons_succ, List.getD_cons_zero, List.set_cons_succ, List.set_cons_zero, Nat.reduceAdd, Nat.reduceLT, Nat.reduceLeDiff, Nat.zero_le, Nat.zero_add, Nat.add_zero]
    refine mi_put hP hk ⟨by decide, by decide⟩ M4 (by simp only [List.length_append, List.length_cons, List.length_nil]; omega) (fun h5 M5 => ?_)
    simp only [k_110_186, k_110_194, am_cat, am_kill, Value.category, List.map_cons, List.map_nil, List.sum_cons, List.sum_nil, Option.toList_some, Option.toList_none, List.cons_append, List.nil_append, List.length_cons, List.length_nil, List.getD_cons_succ, List.getD_cons_zero, List.set_cons_succ, List.set_cons_zero, Nat.reduceAdd, Nat.reduceLT, Nat.reduceLeDiff, Nat.zero_le, Nat.zero_add, Nat.add_zero]
    refine K h5 ?_
    simp only [List.append_assoc] at M5
    exact M5
  · rw [if_neg (ln (fun e => absurd e (by decide)))] at K
    simp only [k_110_189, k_110_189N, k_110_190, k_110_191, M1.ov hP, am_cat, am_kill, Value.category, List.map_cons, List.map_nil, List.sum_cons, List.sum_nil, Option.toList_some, Option.toList_none, List.cons_append, List.nil_append, List.length_cons, List.length_nil, List.getD_cons_succ, List.getD_cons_zero, List.set_cons_succ, List.set_cons_zero, Nat.reduceAdd, Nat.reduceLT, Nat.reduceLeDiff, Nat.zero_le, Nat.zero_add, Nat.add_zero]
    refine mi_whole hP hk (Or.inr (Or.inl rfl)) X (by omega) M1 (by omega) (fun h2 M2 => ?_)
    simp only [k_110_194, am_cat, am_kill, Value.category, List.map_cons, List.map_nil, List.sum_cons, List.sum_nil, Option.toList_some, Option.toList_none, List.cons_append, List.nil_append, List.length_cons, List.length_nil, List.getD_cons_succ, List.getD_cons_zero, List.set_cons_succ, List.set_cons_zero, Nat.reduceAdd, Nat.reduceLT, Nat.reduceLeDiff, Nat.zero_le, Nat.zero_add, Nat.add_zero]
    exact K h2 M2
  · rw [if_neg (ln (fun e => absurd e (by decide)))] at K
    simp only [k_110_189, k_110_189N, k_110_190, k_110_191, M1.ov hP, am_cat, am_kill, Value.category, List.map_cons, List.map_nil, List.sum_cons, List.sum_nil, Option.toList_some, Option.toList_none, List.cons_append, List.nil_append, List.length_cons, List.length_nil, List.getD_cons_succ, List.getD_cons_zero, List.set_cons_succ, List.set_cons_zero, Nat.reduceAdd, Nat.reduceLT, Nat.reduceLeDiff, Nat.zero_le, Nat.zero_add, Nat.add_zero]
    refine mi_whole hP hk (Or.inr (Or.inr rfl)) X (by omega) M1 (by omega) (fun h2 M2 => ?_)
    simp only [k_110_194, am_cat, am_kill, Value.category, List.map_cons, List.map_nil, List.sum_cons, List.sum_nil, Option.toList_some, Option.toList_none, List.cons_append, List.nil_append, List.length_cons, List.length_nil, List.getD_cons_succ, List.getD_cons_zero, List.set_cons_succ, List.set_cons_zero, Nat.reduceAdd, Nat.reduceLT, Nat.reduceLeDiff, Nat.zero_le, Nat.zero_add, Nat.add_zero]
    exact K h2 M2
  · rw [if_neg (ln (fun e => absurd e (by decide)))] at K
    simp only [k_110_89, k_110_89N, k_110_90, M1.ov hP, am_cat, am_kill, Value.category, List.map_cons, List.map_nil, List.sum_cons, List.sum_nil, Option.toList_some, Option.toList_none, List.cons_append, List.nil_append, List.length_cons, List.length_nil, List.getD_cons_succ, List.getD_cons_zero, List.set_cons_succ, List.set_cons_zero, Nat.reduceAdd, Nat.reduceLT, Nat.reduceLeDiff, Nat.zero_le, Nat.zero_add, Nat.add_zero]
    refine mi_wide hP hk X (by omega) (shl32 _) M1 (by omega) (fun h2 M2 => ?_)
    simp only [k_110_93, k_110_194, am_cat, am_kill, Value.category, List.map_cons, List.map_nil, List.sum_cons, List.sum_nil, Option.toList_some, Option.toList_none, List.cons_append, List.nil_append, List.length_cons, List.length_nil, List.getD_cons_succ, List.getD_cons_zero, List.set_cons_succ, List.set_cons_zero, Nat.reduceAdd, Nat.reduceLT, Nat.reduceLeDiff, Nat.zero_le, Nat.zero_add, Nat.add_zero]
    exact K h2 M2
  · rw [if_neg (ln (fun e => absurd e (by decide)))] at K
    have e : litS D 70 u = (eigL (rnd (nx D u)).toInt ++ [102], u + 1) := rfl
    rw [e] at K
    dsimp only at K
    have s1 := eigL_len (rnd (nx D u)).toInt
    simp only [k_110_102, k_110_102N, k_110_103, k_110_103N, k_110_104, k_110_104N, k_110_105, M1.ov hP, am_cat, am_kill, Value.category, List.map_cons, List.map_nil, List.sum_cons, List.sum_nil, Option.toList_some, Option.toList_none, List.cons_append, List.nil_append, List.length_cons, List.length_nil, List.getD_cons_succ, List.getD_cons_zero, List.set_cons_succ, List.set_cons_zero, Nat.reduceAdd, Nat.reduceLT, Nat.reduceLeDiff, Nat.zero_le, Nat.zero_add, Nat.add_zero]
    refine mi_next hP X M1 (by omega) (fun h2 M2 => ?_)
    simp only [k_110_108, k_110_109, M2.ov hP, sp_narrow, am_cat, am_kill, Value.category, List.map_cons, List.map_nil, List.sum_cons, List.sum_nil, Option.toList_some, Option.toList_none, List.cons_append, List.nil_append, List.length_cons, List.length_nil, List.getD_cons_succ, List.getD_cons_zero, List.set_cons_succ, List.set_cons_zero, Nat.reduceAdd, Nat.reduceLT, Nat.reduceLeDiff, Nat.zero_le, Nat.zero_add, Nat.add_zero]
    simp only [k_110_112, M2.ov hP, am_cat, am_kill, Value.category, List.map_cons, List.map_nil, List.sum_cons, List.sum_nil, Option.toList_some, Option.toList_none, List.cons_append, List.nil_append, List.length_cons, List.length_nil, List.getD_cons_succ, List.getD_cons_zero, List.set_cons_succ, List.set_cons_zero, Nat.reduceAdd, Nat.reduceLT, Nat.reduceLeDiff, Nat.zero_le, Nat.zero_add, Nat.add_zero]
    refine mi_eig hP hk (rnd_b _) M2 (by omega) (fun h3 M3 => ?_)
    simp only [k_110_115, k_110_115N, k_110_116, k_110_118, M3.ov hP, am_cat, am_kill, Value.category, List.map_cons, List.map_nil, List.sum_cons, List.sum_nil, Option.toList_some, Option.toList_none, List.cons_append, List.nil_append, List.length_cons, List.length_nil, List.getD_cons_succ, List.getD_cons_zero, List.set_cons_succ, List.set_cons_zero, Nat.reduceAdd, Nat.reduceLT, Nat.reduceLeDiff, Nat.zero_le, Nat.zero_add, Nat.add_zero]
    refine mi_put hP hk ⟨by decide, by decide⟩ M3 (by rw [List.length_append]; omega) (fun h4 M4 => ?_)
    simp only [k_110_121, k_110_194, am_cat, am_kill, Value.category, List.map_cons, List.map_nil, List.sum_cons, List.sum_nil, Option.toList_some, Option.toList_none, List.cons_append, List.nil_append, List.length_cons, List.length_nil, List.getD_cons_succ, List.getD_cons_zero, List.set_cons_succ, List.set_cons_zero, Nat.reduceAdd, Nat.reduceLT, Nat.reduceLeDiff, Nat.zero_le, Nat.zero_add, Nat.add_zero]
    exact K h4 (by rw [List.append_assoc] at M4; exact M4)
  · rw [if_neg (ln (fun e => absurd e (by decide)))] at K
    simp only [k_110_130, k_110_130N, k_110_131, k_110_131N, k_110_132, M1.ov hP, am_cat, am_kill, Value.category, List.map_cons, List.map_nil, List.sum_cons, List.sum_nil, Option.toList_some, Option.toList_none, List.cons_append, List.nil_append, List.length_cons, List.length_nil, List.getD_cons_succ, List.getD_cons_zero, List.set_cons_succ, List.set_cons_zero, Nat.reduceAdd, Nat.reduceLT, Nat.reduceLeDiff, Nat.zero_le, Nat.zero_add, Nat.add_zero]
    refine mi_next hP X M1 (by omega) (fun h2 M2 => ?_)
    have hx : (nx D u).toInt64.toInt.natAbs < 2 ^ 62 := by
      rw [Int32.toInt_toInt64]
      have := (nx D u).le_toInt
      have := (nx D u).toInt_lt
      omega
    simp only [k_110_135, k_110_136, M2.ov hP, am_cat, am_kill, Value.category, List.map_cons, List.map_nil, List.sum_cons, List.sum_nil, Option.toList_some, Option.toList_none, List.cons_append, List.nil_append, List.length_cons, List.length_nil, List.getD_cons_succ, List.getD_cons_zero, List.set_cons_succ, List.set_cons_zero, Nat.reduceAdd, Nat.reduceLT, Nat.reduceLeDiff, Nat.zero_le, Nat.zero_add, Nat.add_zero]
    refine mi_eig hP hk hx M2 (by omega) (fun h3 M3 => ?_)
    rw [Int32.toInt_toInt64] at M3
    simp only [k_110_139, k_110_194, am_cat, am_kill, Value.category, List.map_cons, List.map_nil, List.sum_cons, List.sum_nil, Option.toList_some, Option.toList_none, List.cons_append, List.nil_append, List.length_cons, List.length_nil, List.getD_cons_succ, List.getD_cons_zero, List.set_cons_succ, List.set_cons_zero, Nat.reduceAdd, Nat.reduceLT, Nat.reduceLeDiff, Nat.zero_le, Nat.zero_add, Nat.add_zero]
    exact K h3 M3
  · simp only [k_110_148, k_110_148N, k_110_149, M1.ov hP, am_cat, am_kill, Value.category, List.map_cons, List.map_nil, List.sum_cons, List.sum_nil, Option.toList_some, Option.toList_none, List.cons_append, List.nil_append, List.length_cons, List.length_nil, List.getD_cons_succ, List.getD_cons_zero, List.set_cons_succ, List.set_cons_zero, Nat.reduceAdd, Nat.reduceLT, Nat.reduceLeDiff, Nat.zero_le, Nat.zero_add, Nat.add_zero]
    refine mi_texts hP hk X (by omega) M1 (by omega) (fun h2 M2 => ?_)
    simp only [k_110_152, k_110_194, am_cat, am_kill, Value.category, List.map_cons, List.map_nil, List.sum_cons, List.sum_nil, Option.toList_some, Option.toList_none, List.cons_append, List.nil_append, List.length_cons, List.length_nil, List.getD_cons_succ, List.getD_cons_zero, List.set_cons_succ, List.set_cons_zero, Nat.reduceAdd, Nat.reduceLT, Nat.reduceLeDiff, Nat.zero_le, Nat.zero_add, Nat.add_zero]
    refine K h2 ?_
    by_cases c1 : nx D u < 0
    · have e4 : (litS D 84 u).1 = sx 4 := by
        show (if nx D u < 0 then (sx 4, u + 1) else _ : List Int32 × Nat).1 = sx 4
        rw [if_pos c1]
      rw [if_pos e4]
      rw [if_pos c1] at M2
      exact M2
    · rw [if_neg (ln (fun _ => c1))]
      rw [if_neg c1] at M2
      exact M2
end MVB
