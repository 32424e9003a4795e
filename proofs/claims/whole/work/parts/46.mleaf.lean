/-! THE REFERENCE WRITES: values that hold no others -/
theorem hex_at : ∀ j, j < 16 → (nI j < 10 → (48 : Int32) + nI j = (sx 25).getD j 0) ∧ (¬ nI j < 10 → (65 : Int32) + nI j - 10 = (sx 25).getD j 0) ∧ chr ((sx 25).getD j 0) := by
  unfold chr
  decide +kernel
section ML
variable {P S h : AH} {n0 : Nat → Int32} {A0 : Nat → Nat → Int32} {k u ar d : Nat} {t w D : List Int32} {nl : Int32} {Q : Option Value → AH → Prop}
theorem mi_hex (hP : P.length = 135) (hk : k < 4) {c s q : Int32} {o4 : Option Value} (hs : ¬ s < 0) (M : MS P S n0 A0 k t u ar w nl h) (hb : t.length < 2 ^ 30) (K : ∀ h' o, MS P S n0 A0 k (t ++ [hxd c s]) u ar w nl h' → wp (d + 1) 122 115 [some (.ref 135), some (.int c), some (.int q), some (.int (s + (-4))), o] [] h' Q) : wp (d + 1) 122 115 [some (.ref 135), some (.int c), some (.int q), some (.int s), o4] [] h Q := by
  obtain ⟨j, hj, ej⟩ := pk_andE (c >>> (s &&& 31)) (m := 15) 4 (by decide)
  obtain ⟨x1, x2, x3⟩ := hex_at j hj
  have ed : hxd c s = (sx 25).getD j 0 := by
    unfold hxd
    rw [ej, nI_clamp (by omega)]
  rw [ed] at K
  simp only [k_122_115, k_122_116, k_122_119, k_122_120, k_122_121, k_122_122, k_122_124, k_122_125, k_122_127, k_122_127N, k_122_128, k_122_130, k_122_132, hs, if_false, ej, am_cat, am_kill, Value.category, List.map_cons, List.map_nil, List.sum_cons, List.sum_nil, Option.toList_some, Option.toList_none, List.cons_append, List.nil_append, List.length_cons, List.length_nil, List.getD_cons_succ, List.getD_cons_zero, List.set_cons_succ, List.set_cons_zero, Nat.reduceAdd, Nat.reduceLT, Nat.reduceLeDiff, Nat.zero_le, Nat.zero_add, Nat.add_zero]
  by_cases c1 : nI j < 10
  · simp only [c1, if_true, k_122_135, k_122_137, k_122_139, k_122_140, k_122_151, x1 c1, M.ov hP, am_cat, am_kill, Value.category, List.map_cons, List.map_nil, List.sum_cons, List.sum_nil, Option.toList_some, Option.toList_none, List.cons_append, List.nil_append, List.length_cons, List.length_nil, List.getD_cons_succ, List.getD_cons_zero, List.set_cons_succ, List.set_cons_zero, Nat.reduceAdd, Nat.reduceLT, Nat.reduceLeDiff, Nat.zero_le, Nat.zero_add, Nat.add_zero]
    refine mi_put hP hk x3 M hb (fun h1 M1 => ?_)
    simp only [k_122_154, k_122_157, am_cat, am_kill, Value.category, List.map_cons, List.map_nil, List.sum_cons, List.sum_nil, Option.toList_some, Option.toList_none, List.cons_append, List.nil_append, List.length_cons, List.length_nil, List.getD_cons_succ, List.getD_cons_zero, List.set_cons_succ, List.set_cons_zero, Nat.reduceAdd, Nat.reduceLT, Nat.reduceLeDiff, Nat.zero_le, Nat.zero_add, Nat.add_zero]
    exact K h1 _ M1
  · simp only [c1, if_false, k_122_143, k_122_145, k_122_147, k_122_148, k_122_150, k_122_151, x2 c1, M.ov hP, am_cat, am_kill, Value.category, List.map_cons, List.map_nil, List.sum_cons, List.sum_nil, Option.toList_some, Option.toList_none, List.cons_append, List.nil_append, List.length_cons, List.length_nil, List.getD_cons_succ, List.getD_cons_zero, List.set_cons_succ, List.set_cons_zero, Nat.reduceAdd, Nat.reduceLT, Nat.reduceLeDiff, Nat.zero_le, Nat.zero_add, Nat.add_zero]
    refine mi_put hP hk x3 M hb (fun h1 M1 => ?_)
    simp only [k_122_154, k_122_157, am_cat, am_kill, Value.category, List.map_cons, List.map_nil, List.sum_cons, List.sum_nil, Option.toList_some, Option.toList_none, List.cons_append, List.nil_append, List.length_cons, List.length_nil, List.getD_cons_succ, List.getD_cons_zero, List.set_cons_succ, List.set_cons_zero, Nat.reduceAdd, Nat.reduceLT, Nat.reduceLeDiff, Nat.zero_le, Nat.zero_add, Nat.add_zero]
    exact K h1 _ M1
theorem mi_char (hP : P.length = 135) (hk : k < 4) {c q : Int32} (hch : chr c) (hq : q = 39 ∨ q = 34) (M : MS P S n0 A0 k t u ar w nl h) (hb : t.length < 2 ^ 29) (K : ∀ h', MS P S n0 A0 k (t ++ chE c q) u ar w nl h' → Q none h') : wp (d + 1) 122 0 [some (.ref 135), some (.int c), some (.int q), none, none] [] h Q := by
  have esc : ∀ (x : Int32) (v : List Int32), v = [92, x] → chr x → (∀ h', MS P S n0 A0 k (t ++ v) u ar w nl h' → Q none h') → ∀ h1, MS P S n0 A0 k (t ++ [92]) u ar w nl h1 → wp (d + 1) 122 49 [some (.ref 135), some (.int c), some (.int q), none, none] [.int x, .ref 135] h1 Q := by
    intro x v hv hx K h1 M1
    simp only [k_122_49, M1.ov hP, am_cat, am_kill, Value.category, List.map_cons, List.map_nil, List.sum_cons, List.sum_nil, Option.toList_some, Option.toList_none, List.cons_append, List.nil_append, List.length_cons, List.length_nil, List.getD_cons_succ, List.getD_cons_zero, List.set_cons_succ, List.set_cons_zero, Nat.reduceAdd, Nat.reduceLT, Nat.reduceLeDiff, Nat.zero_le, Nat.zero_add, Nat.add_zero]
    refine mi_put hP hk hx M1 (by rw [List.length_append]; show t.length + 1 < _; omega) (fun h2 M2 => ?_)
    simp only [k_122_52, k_122_160, am_cat, am_kill, Value.category, List.map_cons, List.map_nil, List.sum_cons, List.sum_nil, Option.toList_some, Option.toList_none, List.cons_append, List.nil_append, List.length_cons, List.length_nil, List.getD_cons_succ, List.getD_cons_zero, List.set_cons_succ, List.set_cons_zero, Nat.reduceAdd, Nat.reduceLT, Nat.reduceLeDiff, Nat.zero_le, Nat.zero_add, Nat.add_zero]
    refine K h2 ?_
    rw [hv]
    rw [List.append_assoc] at M2
    exact M2
  unfold chE at K
  by_cases c9 : c = 9
  · rw [if_pos c9] at K
    have f1 : ¬ c = 10 := fun e => by rw [c9] at e; exact absurd e (by decide)
    simp only [k_122_0, k_122_1, k_122_3, k_122_6, k_122_7, k_122_9, k_122_18, k_122_18N, k_122_19, k_122_21, f1, if_false, if_pos c9, M.ov hP, am_cat, am_kill, Value.category, List.map_cons, List.map_nil, List.sum_cons, List.sum_nil, Option.toList_some, Option.toList_none, List.cons_append, List.nil_append, List.length_cons, List.length_nil, List.getD_cons_succ, List.getD_cons_zero, List.set_cons_succ, List.set_cons_zero, Nat.reduceAdd, Nat.reduceLT, Nat.reduceLeDiff, Nat.zero_le, Nat.zero_add, Nat.add_zero]
    refine mi_put hP hk ⟨by decide, by decide⟩ M (by omega) (fun h1 M1 => ?_)
    simp only [k_122_24, k_122_24N, k_122_25, k_122_26, k_122_28, k_122_36, k_122_37, k_122_39, k_122_42, k_122_44, f1, if_false, if_pos c9, am_cat, am_kill, Value.category, List.map_cons, List.map_nil, List.sum_cons, List.sum_nil, Option.toList_some, Option.toList_none, List.cons_append, List.nil_append, List.length_cons, List.length_nil, List.getD_cons_succ, List.getD_cons_zero, List.set_cons_succ, List.set_cons_zero, Nat.reduceAdd, Nat.reduceLT, Nat.reduceLeDiff, Nat.zero_le, Nat.zero_add, Nat.add_zero]
    exact esc 116 _ rfl ⟨by decide, by decide⟩ K h1 M1
  rw [if_neg c9] at K
  by_cases c10 : c = 10
  · rw [if_pos c10] at K
    simp only [k_122_0, k_122_1, k_122_3, k_122_18, k_122_18N, k_122_19, k_122_21, if_pos c10, M.ov hP, am_cat, am_kill, Value.category, List.map_cons, List.map_nil, List.sum_cons, List.sum_nil, Option.toList_some, Option.toList_none, List.cons_append, List.nil_append, List.length_cons, List.length_nil, List.getD_cons_succ, List.getD_cons_zero, List.set_cons_succ, List.set_cons_zero, Nat.reduceAdd, Nat.reduceLT, Nat.reduceLeDiff, Nat.zero_le, Nat.zero_add, Nat.add_zero]
    refine mi_put hP hk ⟨by decide, by decide⟩ M (by omega) (fun h1 M1 => ?_)
    simp only [k_122_24, k_122_24N, k_122_25, k_122_26, k_122_28, k_122_31, k_122_33, if_pos c10, am_cat, am_kill, Value.category, List.map_cons, List.map_nil, List.sum_cons, List.sum_nil, Option.toList_some, Option.toList_none, List.cons_append, List.nil_append, List.length_cons, List.length_nil, List.getD_cons_succ, List.getD_cons_zero, List.set_cons_succ, List.set_cons_zero, Nat.reduceAdd, Nat.reduceLT, Nat.reduceLeDiff, Nat.zero_le, Nat.zero_add, Nat.add_zero]
    exact esc 110 _ rfl ⟨by decide, by decide⟩ K h1 M1
  rw [if_neg c10] at K
  by_cases c13 : c = 13
  · rw [if_pos c13] at K
    simp only [k_122_0, k_122_1, k_122_3, k_122_6, k_122_7, k_122_9, k_122_12, k_122_13, k_122_15, k_122_18, k_122_18N, k_122_19, k_122_21, c9, c10, if_false, if_pos c13, M.ov hP, am_cat, am_kill, Value.category, List.map_cons, List.map_nil, List.sum_cons, List.sum_nil, Option.toList_some, Option.toList_none, List.cons_append, List.nil_append, List.length_cons, List.length_nil, List.getD_cons_succ, List.getD_cons_zero, List.set_cons_succ, List.set_cons_zero, Nat.reduceAdd, Nat.reduceLT, Nat.reduceLeDiff, Nat.zero_le, Nat.zero_add, Nat.add_zero]
    refine mi_put hP hk ⟨by decide, by decide⟩ M (by omega) (fun h1 M1 => ?_)
    simp only [k_122_24, k_122_24N, k_122_25, k_122_26, k_122_28, k_122_36, k_122_37, k_122_39, k_122_47, c9, c10, if_false, am_cat, am_kill, Value.category, List.map_cons, List.map_nil, List.sum_cons, List.sum_nil, Option.toList_some, Option.toList_none, List.cons_append, List.nil_append, List.length_cons, List.length_nil, List.getD_cons_succ, List.getD_cons_zero, List.set_cons_succ, List.set_cons_zero, Nat.reduceAdd, Nat.reduceLT, Nat.reduceLeDiff, Nat.zero_le, Nat.zero_add, Nat.add_zero]
    exact esc 114 _ rfl ⟨by decide, by decide⟩ K h1 M1
  rw [if_neg c13] at K
  simp only [k_122_0, k_122_1, k_122_3, k_122_6, k_122_7, k_122_9, k_122_12, k_122_13, k_122_15, k_122_55, k_122_56, k_122_58, k_122_61, k_122_62, k_122_63, c9, c10, c13, if_false, am_cat, am_kill, Value.category, List.map_cons, List.map_nil, List.sum_cons, List.sum_nil, Option.toList_some, Option.toList_none, List.cons_append, List.nil_append, List.length_cons, List.length_nil, List.getD_cons_succ, List.getD_cons_zero, List.set_cons_succ, List.set_cons_zero, Nat.reduceAdd, Nat.reduceLT, Nat.reduceLeDiff, Nat.zero_le, Nat.zero_add, Nat.add_zero]
  rw [ite_two (r := c = 92 ∨ c = q) Iff.rfl]
  by_cases ce : c = 92 ∨ c = q
  · rw [if_pos ce] at K ⊢
    simp only [k_122_66, k_122_66N, k_122_67, k_122_69, M.ov hP, am_cat, am_kill, Value.category, List.map_cons, List.map_nil, List.sum_cons, List.sum_nil, Option.toList_some, Option.toList_none, List.cons_append, List.nil_append, List.length_cons, List.length_nil, List.getD_cons_succ, List.getD_cons_zero, List.set_cons_succ, List.set_cons_zero, Nat.reduceAdd, Nat.reduceLT, Nat.reduceLeDiff, Nat.zero_le, Nat.zero_add, Nat.add_zero]
    refine mi_put hP hk ⟨by decide, by decide⟩ M (by omega) (fun h1 M1 => ?_)
    simp only [k_122_72, k_122_72N, k_122_73, k_122_74, M1.ov hP, am_cat, am_kill, Value.category, List.map_cons, List.map_nil, List.sum_cons, List.sum_nil, Option.toList_some, Option.toList_none, List.cons_append, List.nil_append, List.length_cons, List.length_nil, List.getD_cons_succ, List.getD_cons_zero, List.set_cons_succ, List.set_cons_zero, Nat.reduceAdd, Nat.reduceLT, Nat.reduceLeDiff, Nat.zero_le, Nat.zero_add, Nat.add_zero]
    refine mi_put hP hk hch M1 (by rw [List.length_append]; show t.length + 1 < _; omega) (fun h2 M2 => ?_)
    simp only [k_122_77, k_122_160, am_cat, am_kill, Value.category, List.map_cons, List.map_nil, List.sum_cons, List.sum_nil, Option.toList_some, Option.toList_none, List.cons_append, List.nil_append, List.length_cons, List.length_nil, List.getD_cons_succ, List.getD_cons_zero, List.set_cons_succ, List.set_cons_zero, Nat.reduceAdd, Nat.reduceLT, Nat.reduceLeDiff, Nat.zero_le, Nat.zero_add, Nat.add_zero]
    exact K h2 (by rw [List.append_assoc] at M2; exact M2)
  · rw [if_neg ce] at K ⊢
    have e31 : ((31 : Int32) < c) ↔ ¬ c < 32 := by
      obtain ⟨a1, a2⟩ := hch
      rw [Int32.lt_iff_toInt_lt, Int32.lt_iff_toInt_lt, show (31 : Int32).toInt = 31 by decide, show (32 : Int32).toInt = 32 by decide]
      omega
    have e127 : (c < (127 : Int32)) ↔ ¬ 126 < c := by
      obtain ⟨a1, a2⟩ := hch
      rw [Int32.lt_iff_toInt_lt, Int32.lt_iff_toInt_lt, show (127 : Int32).toInt = 127 by decide, show (126 : Int32).toInt = 126 by decide]
      omega
    simp only [k_122_80, k_122_81, k_122_83, k_122_86, k_122_87, k_122_89, e31, e127, am_cat, am_kill, Value.category, List.map_cons, List.map_nil, List.sum_cons, List.sum_nil, Option.toList_some, Option.toList_none, List.cons_append, List.nil_append, List.length_cons, List.length_nil, List.getD_cons_succ, List.getD_cons_zero, List.set_cons_succ, List.set_cons_zero, Nat.reduceAdd, Nat.reduceLT, Nat.reduceLeDiff, Nat.zero_le, Nat.zero_add, Nat.add_zero]
    by_cases cx : c < 32 ∨ 126 < c
    · rw [if_pos cx, show sx 24 = [92] ++ [117] from rfl] at K
      simp only [List.append_assoc] at K
      have go : wp (d + 1) 122 100 [some (.ref 135), some (.int c), some (.int q), none, none] [] h Q := by
        simp only [k_122_100, k_122_100N, k_122_101, k_122_103, M.ov hP, am_cat, am_kill, Value.category, List.map_cons, List.map_nil, List.sum_cons, List.sum_nil, Option.toList_some, Option.toList_none, List.cons_append, List.nil_append, List.length_cons, List.length_nil, List.getD_cons_succ, List.getD_cons_zero, List.set_cons_succ, List.set_cons_zero, Nat.reduceAdd, Nat.reduceLT, Nat.reduceLeDiff, Nat.zero_le, Nat.zero_add, Nat.add_zero]
        refine mi_put hP hk ⟨by decide, by decide⟩ M (by omega) (fun h1 M1 => ?_)
        simp only [k_122_106, k_122_106N, k_122_107, k_122_109, M1.ov hP, am_cat, am_kill, Value.category, List.map_cons, List.map_nil, List.sum_cons, List.sum_nil, Option.toList_some, Option.toList_none, List.cons_append, List.nil_append, List.length_cons, List.length_nil, List.getD_cons_succ, List.getD_cons_zero, List.set_cons_succ, List.set_cons_zero, Nat.reduceAdd, Nat.reduceLT, Nat.reduceLeDiff, Nat.zero_le, Nat.zero_add, Nat.add_zero]
        refine mi_put hP hk ⟨by decide, by decide⟩ M1 (by rw [List.length_append]; show t.length + 1 < _; omega) (fun h2 M2 => ?_)
        simp only [k_122_112, k_122_114, am_cat, am_kill, Value.category, List.map_cons, List.map_nil, List.sum_cons, List.sum_nil, Option.toList_some, Option.toList_none, List.cons_append, List.nil_append, List.length_cons, List.length_nil, List.getD_cons_succ, List.getD_cons_zero, List.set_cons_succ, List.set_cons_zero, Nat.reduceAdd, Nat.reduceLT, Nat.reduceLeDiff, Nat.zero_le, Nat.zero_add, Nat.add_zero]
        refine mi_hex hP hk (by decide) M2 (by simp only [List.length_append, List.length_cons, List.length_nil]; omega) (fun h3 o3 M3 => ?_)
        rw [show (12 : Int32) + (-4) = 8 by decide]
        refine mi_hex hP hk (by decide) M3 (by simp only [List.length_append, List.length_cons, List.length_nil]; omega) (fun h4 o4 M4 => ?_)
        rw [show (8 : Int32) + (-4) = 4 by decide]
        refine mi_hex hP hk (by decide) M4 (by simp only [List.length_append, List.length_cons, List.length_nil]; omega) (fun h5 o5 M5 => ?_)
        rw [show (4 : Int32) + (-4) = 0 by decide]
        refine mi_hex hP hk (by decide) M5 (by simp only [List.length_append, List.length_cons, List.length_nil]; omega) (fun h6 o6 M6 => ?_)
        have e4 : (0 : Int32) + (-4) < 0 := by decide
        simp only [k_122_115, k_122_116, k_122_160, e4, if_true, am_cat, am_kill, Value.category, List.map_cons, List.map_nil, List.sum_cons, List.sum_nil, Option.toList_some, Option.toList_none, List.cons_append, List.nil_append, List.length_cons, List.length_nil, List.getD_cons_succ, List.getD_cons_zero, List.set_cons_succ, List.set_cons_zero, Nat.reduceAdd, Nat.reduceLT, Nat.reduceLeDiff, Nat.zero_le, Nat.zero_add, Nat.add_zero]
        refine K h6 ?_
        simp only [List.append_assoc] at M6
        exact M6
      rcases cx with q1 | q1
      · rw [if_neg (fun z => z q1)]
        exact go
      · by_cases q2 : c < 32
        · rw [if_neg (fun z => z q2)]
          exact go
        · rw [if_pos q2, if_neg (fun z => z q1)]
          exact go
    · rw [if_neg cx] at K
      rw [if_pos (fun z => cx (Or.inl z)), if_pos (fun z => cx (Or.inr z))]
      simp only [k_122_92, k_122_92N, k_122_93, k_122_94, M.ov hP, am_cat, am_kill, Value.category, List.map_cons, List.map_nil, List.sum_cons, List.sum_nil, Option.toList_some, Option.toList_none, List.cons_append, List.nil_append, List.length_cons, List.length_nil, List.getD_cons_succ, List.getD_cons_zero, List.set_cons_succ, List.set_cons_zero, Nat.reduceAdd, Nat.reduceLT, Nat.reduceLeDiff, Nat.zero_le, Nat.zero_add, Nat.add_zero]
      refine mi_put hP hk hch M (by omega) (fun h1 M1 => ?_)
      simp only [k_122_97, k_122_160, am_cat, am_kill, Value.category, List.map_cons, List.map_nil, List.sum_cons, List.sum_nil, Option.toList_some, Option.toList_none, List.cons_append, List.nil_append, List.length_cons, List.length_nil, List.getD_cons_succ, List.getD_cons_zero, List.set_cons_succ, List.set_cons_zero, Nat.reduceAdd, Nat.reduceLT, Nat.reduceLeDiff, Nat.zero_le, Nat.zero_add, Nat.add_zero]
      exact K h1 M1
/-! pointed -/
theorem mi_eig3 (hP : P.length = 135) (hk : k < 4) {v : Int64} {f : Nat} {o3 o4 : Option Value} (hf : f < 1000) (M : MS P S n0 A0 k t u ar w nl h) (hb : t.length < 2 ^ 30) (K : ∀ h', MS P S n0 A0 k (t ++ eig3 f) u ar w nl h' → Q none h') : wp (d + 2) 120 86 [some (.ref 135), some (.long v), none, o3, o4, some (.int (nI f))] [] h Q := by
  have h10 : ¬ (10 : Int32) = 0 := by decide
  have e1 : nI f - nI f / 10 * 10 = nI (f % 10) := pk_rem (d := 10) (by omega) (by decide) (by decide)
  have e2 : nI (f % 10) = 0 ↔ f % 10 = 0 := nI_eq (b := 0) (by omega) (by omega)
  have e3 : (48 : Int32) + nI (f % 10) = nI (48 + f % 10) := nI_add 48 _
  simp only [k_120_86, k_120_88, k_120_90 h10, k_120_91, e1, e2, am_cat, am_kill, Value.category, List.map_cons, List.map_nil, List.sum_cons, List.sum_nil, Option.toList_some, Option.toList_none, List.cons_append, List.nil_append, List.length_cons, List.length_nil, List.getD_cons_succ, List.getD_cons_zero, List.set_cons_succ, List.set_cons_zero, Nat.reduceAdd, Nat.reduceLT, Nat.reduceLeDiff, Nat.zero_le, Nat.zero_add, Nat.add_zero]
  unfold eig3 at K
  by_cases c : f % 10 = 0
  · rw [if_pos c] at K ⊢
    simp only [k_120_106, am_cat, am_kill, Value.category, List.map_cons, List.map_nil, List.sum_cons, List.sum_nil, Option.toList_some, Option.toList_none, List.cons_append, List.nil_append, List.length_cons, List.length_nil, List.getD_cons_succ, List.getD_cons_zero, List.set_cons_succ, List.set_cons_zero, Nat.reduceAdd, Nat.reduceLT, Nat.reduceLeDiff, Nat.zero_le, Nat.zero_add, Nat.add_zero]
    exact K h (by rw [List.append_nil]; exact M)
  · rw [if_neg c] at K ⊢
    simp only [k_120_94, k_120_94N, k_120_95, k_120_97, k_120_99, k_120_101 h10, k_120_102, k_120_103, e1, e3, M.ov hP, am_cat, am_kill, Value.category, List.map_cons, List.map_nil, List.sum_cons, List.sum_nil, Option.toList_some, Option.toList_none, List.cons_append, List.nil_append, List.length_cons, List.length_nil, List.getD_cons_succ, List.getD_cons_zero, List.set_cons_succ, List.set_cons_zero, Nat.reduceAdd, Nat.reduceLT, Nat.reduceLeDiff, Nat.zero_le, Nat.zero_add, Nat.add_zero]
    refine mi_put hP hk (chr_nI (by omega)) M (by omega) (fun h1 M1 => ?_)
    simp only [k_120_106, am_cat, am_kill, Value.category, List.map_cons, List.map_nil, List.sum_cons, List.sum_nil, Option.toList_some, Option.toList_none, List.cons_append, List.nil_append, List.length_cons, List.length_nil, List.getD_cons_succ, List.getD_cons_zero, List.set_cons_succ, List.set_cons_zero, Nat.reduceAdd, Nat.reduceLT, Nat.reduceLeDiff, Nat.zero_le, Nat.zero_add, Nat.add_zero]
    exact K h1 M1
theorem mi_eig2 (hP : P.length = 135) (hk : k < 4) {v : Int64} {f : Nat} {o3 o4 : Option Value} (hf : f < 1000) (M : MS P S n0 A0 k t u ar w nl h) (hb : t.length < 2 ^ 29) (K : ∀ h', MS P S n0 A0 k (t ++ eig2 f) u ar w nl h' → Q none h') : wp (d + 2) 120 63 [some (.ref 135), some (.long v), none, o3, o4, some (.int (nI f))] [] h Q := by
  have h10 : ¬ (10 : Int32) = 0 := by decide
  have h100 : ¬ (100 : Int32) = 0 := by decide
  have e1 : nI f - nI f / 100 * 100 = nI (f % 100) := pk_rem (d := 100) (by omega) (by decide) (by decide)
  have e2 : nI (f % 100) = 0 ↔ f % 100 = 0 := nI_eq (b := 0) (by omega) (by omega)
  have e4 : nI f / 10 = nI (f / 10) := pk_div (d := 10) (by omega) (by decide) (by decide)
  have e5 : nI (f / 10) - nI (f / 10) / 10 * 10 = nI (f / 10 % 10) := pk_rem (d := 10) (by omega) (by decide) (by decide)
  have e3 : (48 : Int32) + nI (f / 10 % 10) = nI (48 + f / 10 % 10) := nI_add 48 _
  simp only [k_120_63, k_120_65, k_120_67 h100, k_120_68, e1, e2, am_cat, am_kill, Value.category, List.map_cons, List.map_nil, List.sum_cons, List.sum_nil, Option.toList_some, Option.toList_none, List.cons_append, List.nil_append, List.length_cons, List.length_nil, List.getD_cons_succ, List.getD_cons_zero, List.set_cons_succ, List.set_cons_zero, Nat.reduceAdd, Nat.reduceLT, Nat.reduceLeDiff, Nat.zero_le, Nat.zero_add, Nat.add_zero]
  unfold eig2 at K
  by_cases c : f % 100 = 0
  · rw [if_pos c, List.nil_append] at K
    rw [if_pos c]
    exact mi_eig3 hP hk hf M (by omega) K
  · rw [if_neg c] at K
    rw [if_neg c]
    simp only [k_120_71, k_120_71N, k_120_72, k_120_74, k_120_76, k_120_78 h10, k_120_79, k_120_81 h10, k_120_82, k_120_83, e4, e5, e3, M.ov hP, am_cat, am_kill, Value.category, List.map_cons, List.map_nil, List.sum_cons, List.sum_nil, Option.toList_some, Option.toList_none, List.cons_append, List.nil_append, List.length_cons, List.length_nil, List.getD_cons_succ, List.getD_cons_zero, List.set_cons_succ, List.set_cons_zero, Nat.reduceAdd, Nat.reduceLT, Nat.reduceLeDiff, Nat.zero_le, Nat.zero_add, Nat.add_zero]
    refine mi_put hP hk (chr_nI (by omega)) M (by omega) (fun h1 M1 => ?_)
    refine mi_eig3 hP hk hf M1 (by rw [List.length_append]; show t.length + 1 < _; omega) (fun h2 M2 => ?_)
    exact K h2 (by rw [List.append_assoc] at M2; exact M2)
theorem mi_eigP (hP : P.length = 135) (hk : k < 4) {v : Int64} {m : Nat} {o4 o5 : Option Value} (hn : m < 2 ^ 62) (M : MS P S n0 A0 k t u ar w nl h) (hb : t.length < 2 ^ 28) (K : ∀ h', MS P S n0 A0 k (t ++ eigP m) u ar w nl h' → Q none h') : wp (d + 2) 120 25 [some (.ref 135), some (.long v), none, some (.long (lN m)), o4, o5] [] h Q := by
  have h8 : ¬ (8 : Int64) = 0 := by decide
  have h100 : ¬ (100 : Int32) = 0 := by decide
  have e1 : lN m - lN m / 8 * 8 = lN (m % 8) := pk_lRem (b := 8) (by omega) (by decide) (by decide)
  have e2 : lN m / 8 = lN (m / 8) := pk_lDiv (b := 8) (by omega) (by decide) (by decide)
  have e3 : nI (m % 8) * 125 = nI (m % 8 * 125) := nI_mul _ 125
  have hf : m % 8 * 125 < 1000 := by omega
  have e4 : nI (m % 8 * 125) / 100 = nI (m % 8 * 125 / 100) := pk_div (d := 100) (by omega) (by decide) (by decide)
  have e5 : (48 : Int32) + nI (m % 8 * 125 / 100) = nI (48 + m % 8 * 125 / 100) := nI_add 48 _
  have nl := num_len ((m / 8 : Nat) : Int)
  have et : (lN (m / 8)).toInt = ((m / 8 : Nat) : Int) := pk_lT (by omega)
  simp only [k_120_25, k_120_25N, k_120_26, k_120_27, k_120_30 h8, k_120_31, e2, M.ov hP, am_cat, am_kill, Value.category, List.map_cons, List.map_nil, List.sum_cons, List.sum_nil, Option.toList_some, Option.toList_none, List.cons_append, List.nil_append, List.length_cons, List.length_nil, List.getD_cons_succ, List.getD_cons_zero, List.set_cons_succ, List.set_cons_zero, Nat.reduceAdd, Nat.reduceLT, Nat.reduceLeDiff, Nat.zero_le, Nat.zero_add, Nat.add_zero]
  unfold eigP at K
  refine mi_num hP hk (by rw [et]; omega) M (by omega) (fun h1 M1 => ?_)
  rw [et] at M1
  simp only [k_120_34, k_120_34N, k_120_35, k_120_37, M1.ov hP, am_cat, am_kill, Value.category, List.map_cons, List.map_nil, List.sum_cons, List.sum_nil, Option.toList_some, Option.toList_none, List.cons_append, List.nil_append, List.length_cons, List.length_nil, List.getD_cons_succ, List.getD_cons_zero, List.set_cons_succ, List.set_cons_zero, Nat.reduceAdd, Nat.reduceLT, Nat.reduceLeDiff, Nat.zero_le, Nat.zero_add, Nat.add_zero]
  refine mi_put hP hk ⟨by decide, by decide⟩ M1 (by rw [List.length_append]; omega) (fun h2 M2 => ?_)
  simp only [k_120_40, k_120_41, k_120_44 h8, k_120_45, k_120_46, k_120_48, k_120_49, k_120_51, k_120_51N, k_120_52, k_120_54, k_120_56, k_120_58 h100, k_120_59, k_120_60, e1, lN_i, e3, e4, e5, M2.ov hP, am_cat, am_kill, Value.category, List.map_cons, List.map_nil, List.sum_cons, List.sum_nil, Option.toList_some, Option.toList_none, List.cons_append, List.nil_append, List.length_cons, List.length_nil, List.getD_cons_succ, List.getD_cons_zero, List.set_cons_succ, List.set_cons_zero, Nat.reduceAdd, Nat.reduceLT, Nat.reduceLeDiff, Nat.zero_le, Nat.zero_add, Nat.add_zero]
  refine mi_put hP hk (chr_nI (by omega)) M2 (by simp only [List.length_append, List.length_cons, List.length_nil]; omega) (fun h3 M3 => ?_)
  refine mi_eig2 hP hk hf M3 (by simp only [List.length_append, List.length_cons, List.length_nil]; omega) (fun h4 M4 => ?_)
  refine K h4 ?_
  simp only [List.append_assoc] at M4
  exact M4
theorem mi_eig (hP : P.length = 135) (hk : k < 4) {v : Int64} (hn : v.toInt.natAbs < 2 ^ 62) (M : MS P S n0 A0 k t u ar w nl h) (hb : t.length < 2 ^ 27) (K : ∀ h', MS P S n0 A0 k (t ++ eigL v.toInt) u ar w nl h' → Q none h') : wp (d + 2) 120 0 [some (.ref 135), some (.long v), none, none, none, none] [] h Q := by
  simp only [k_120_0, k_120_1, k_120_2, k_120_3, lg_cmp_lt, lt0_toInt, am_cat, am_kill, Value.category, List.map_cons, List.map_nil, List.sum_cons, List.sum_nil, Option.toList_some, Option.toList_none, List.cons_append, List.nil_append, List.length_cons, List.length_nil, List.getD_cons_succ, List.getD_cons_zero, List.set_cons_succ, List.set_cons_zero, Nat.reduceAdd, Nat.reduceLT, Nat.reduceLeDiff, Nat.zero_le, Nat.zero_add, Nat.add_zero]
  unfold eigL at K
  by_cases c : v.toInt < 0
  · rw [if_pos c] at K
    have e1 := neg_lN c (by omega)
    simp only [c, if_true, k_120_6, k_120_7, k_120_8, k_120_12, k_120_13, k_120_14, k_120_15, k_120_16, k_120_19, k_120_19N, k_120_20, k_120_22, lg_cmp_lt, lt0_toInt, e1, M.ov hP, am_cat, am_kill, Value.category, List.map_cons, List.map_nil, List.sum_cons, List.sum_nil, Option.toList_some, Option.toList_none, List.cons_append, List.nil_append, List.length_cons, List.length_nil, List.getD_cons_succ, List.getD_cons_zero, List.set_cons_succ, List.set_cons_zero, Nat.reduceAdd, Nat.reduceLT, Nat.reduceLeDiff, Nat.zero_le, Nat.zero_add, Nat.add_zero]
    refine mi_put hP hk ⟨by decide, by decide⟩ M (by omega) (fun h1 M1 => ?_)
    refine mi_eigP hP hk hn M1 (by rw [List.length_append]; show t.length + 1 < _; omega) (fun h2 M2 => ?_)
    exact K h2 (by rw [List.append_assoc] at M2; exact M2)
  · rw [if_neg c, List.nil_append] at K
    have e1 := pos_lN c
    simp only [c, if_false, k_120_11, k_120_12, k_120_13, k_120_14, k_120_15, k_120_16, lg_cmp_lt, lt0_toInt, am_cat, am_kill, Value.category, List.map_cons, List.map_nil, List.sum_cons, List.sum_nil, Option.toList_some, Option.toList_none, List.cons_append, List.nil_append, List.length_cons, List.length_nil, List.getD_cons_succ, List.getD_cons_zero, List.set_cons_succ, List.set_cons_zero, Nat.reduceAdd, Nat.reduceLT, Nat.reduceLeDiff, Nat.zero_le, Nat.zero_add, Nat.add_zero]
    have := mi_eigP (v := v) (o4 := none) (o5 := none) (d := d) hP hk hn M (by omega) K
    rw [← e1] at this
    exact this
/-! whole, wide, texts -/
theorem mi_wide (hP : P.length = 135) (hk : k < 4) (X : Mst n0 A0 D) (hu : u < 2 ^ 29) (hlv : (nx D u).toInt64 * 4294967296 = (nx D u).toInt64 <<< ((32 : Int32).toInt64 &&& 63)) (M : MS P S n0 A0 k t u ar w nl h) (hb : t.length < 2 ^ 27) (K : ∀ h', MS P S n0 A0 k (t ++ lngL (nx D u) (nx D (u + 1))) (u + 2) ar w nl h' → Q none h') : wp (d + 3) 116 0 [some (.ref 135), none, none, none] [] h Q := by
  simp only [k_116_0, k_116_0N, k_116_1, M.ov hP, am_cat, am_kill, Value.category, List.map_cons, List.map_nil, List.sum_cons, List.sum_nil, Option.toList_some, Option.toList_none, List.cons_append, List.nil_append, List.length_cons, List.length_nil, List.getD_cons_succ, List.getD_cons_zero, List.set_cons_succ, List.set_cons_zero, Nat.reduceAdd, Nat.reduceLT, Nat.reduceLeDiff, Nat.zero_le, Nat.zero_add, Nat.add_zero]
  refine mi_next hP X M (by omega) (fun h1 M1 => ?_)
  simp only [k_116_4, k_116_5, k_116_6, k_116_10, k_116_11, k_116_11N, k_116_7, k_116_12, M1.ov hP, am_cat, am_kill, Value.category, List.map_cons, List.map_nil, List.sum_cons, List.sum_nil, Option.toList_some, Option.toList_none, List.cons_append, List.nil_append, List.length_cons, List.length_nil, List.getD_cons_succ, List.getD_cons_zero, List.set_cons_succ, List.set_cons_zero, Nat.reduceAdd, Nat.reduceLT, Nat.reduceLeDiff, Nat.zero_le, Nat.zero_add, Nat.add_zero]
  refine mi_next hP X M1 (by omega) (fun h2 M2 => ?_)
  have e1 : (nx D u).toInt64 * 4294967296 + ((nx D (u + 1)).toInt64 &&& 4294967295) = lngV (nx D u) (nx D (u + 1)) := by rw [hlv]; rfl
  simp only [k_116_15, k_116_19, k_116_20, k_116_21, k_116_22, k_116_26, k_116_27, k_116_16, k_116_23, lg_cmp_eq, e1, am_cat, am_kill, Value.category, List.map_cons, List.map_nil, List.sum_cons, List.sum_nil, Option.toList_some, Option.toList_none, List.cons_append, List.nil_append, List.length_cons, List.length_nil, List.getD_cons_succ, List.getD_cons_zero, List.set_cons_succ, List.set_cons_zero, Nat.reduceAdd, Nat.reduceLT, Nat.reduceLeDiff, Nat.zero_le, Nat.zero_add, Nat.add_zero]
  unfold lngL at K
  by_cases c : lngV (nx D u) (nx D (u + 1)) = Int64.ofNat 9223372036854775808
  · rw [if_pos c] at K ⊢
    simp only [k_116_30, k_116_30N, k_116_31, k_116_34, M2.ov hP, am_cat, am_kill, Value.category, List.map_cons, List.map_nil, List.sum_cons, List.sum_nil, Option.toList_some, Option.toList_none, List.cons_append, List.nil_append, List.length_cons, List.length_nil, List.getD_cons_succ, List.getD_cons_zero, List.set_cons_succ, List.set_cons_zero, Nat.reduceAdd, Nat.reduceLT, Nat.reduceLeDiff, Nat.zero_le, Nat.zero_add, Nat.add_zero]
    refine mi_least hP hk (sx 27) (by decide) (by decide) M2 (by omega) (fun h3 M3 => ?_)
    simp only [k_116_37, am_cat, am_kill, Value.category, List.map_cons, List.map_nil, List.sum_cons, List.sum_nil, Option.toList_some, Option.toList_none, List.cons_append, List.nil_append, List.length_cons, List.length_nil, List.getD_cons_succ, List.getD_cons_zero, List.set_cons_succ, List.set_cons_zero, Nat.reduceAdd, Nat.reduceLT, Nat.reduceLeDiff, Nat.zero_le, Nat.zero_add, Nat.add_zero]
    exact K h3 M3
  · rw [if_neg c] at K ⊢
    have hne : (lngV (nx D u) (nx D (u + 1))).toInt.natAbs < 2 ^ 63 := by
      have a1 := (lngV (nx D u) (nx D (u + 1))).toInt_lt
      have a2 := (lngV (nx D u) (nx D (u + 1))).le_toInt
      have a3 : (lngV (nx D u) (nx D (u + 1))).toInt ≠ -9223372036854775808 := fun q => c (Int64.toInt_inj.mp (by rw [q]; decide))
      omega
    have nl := num_len (lngV (nx D u) (nx D (u + 1))).toInt
    simp only [k_116_38, k_116_38N, k_116_39, k_116_40, M2.ov hP, am_cat, am_kill, Value.category, List.map_cons, List.map_nil, List.sum_cons, List.sum_nil, Option.toList_some, Option.toList_none, List.cons_append, List.nil_append, List.length_cons, List.length_nil, List.getD_cons_succ, List.getD_cons_zero, List.set_cons_succ, List.set_cons_zero, Nat.reduceAdd, Nat.reduceLT, Nat.reduceLeDiff, Nat.zero_le, Nat.zero_add, Nat.add_zero]
    refine mi_num hP hk hne M2 (by omega) (fun h3 M3 => ?_)
    simp only [k_116_43, k_116_43N, k_116_44, k_116_46, M3.ov hP, am_cat, am_kill, Value.category, List.map_cons, List.map_nil, List.sum_cons, List.sum_nil, Option.toList_some, Option.toList_none, List.cons_append, List.nil_append, List.length_cons, List.length_nil, List.getD_cons_succ, List.getD_cons_zero, List.set_cons_succ, List.set_cons_zero, Nat.reduceAdd, Nat.reduceLT, Nat.reduceLeDiff, Nat.zero_le, Nat.zero_add, Nat.add_zero]
    refine mi_put hP hk ⟨by decide, by decide⟩ M3 (by rw [List.length_append]; omega) (fun h4 M4 => ?_)
    simp only [k_116_49, am_cat, am_kill, Value.category, List.map_cons, List.map_nil, List.sum_cons, List.sum_nil, Option.toList_some, Option.toList_none, List.cons_append, List.nil_append, List.length_cons, List.length_nil, List.getD_cons_succ, List.getD_cons_zero, List.set_cons_succ, List.set_cons_zero, Nat.reduceAdd, Nat.reduceLT, Nat.reduceLeDiff, Nat.zero_le, Nat.zero_add, Nat.add_zero]
    exact K h4 (by rw [List.append_assoc] at M4; exact M4)
theorem mi_txt_loop (hP : P.length = 135) (hk : k < 4) {m : Nat} (hm : m < 2 ^ 31) (X : Mst n0 A0 D) : ∀ (j i : Nat) (h : AH) (t : List Int32) (u : Nat), i + j = m % 5 → MS P S n0 A0 k t u ar w nl h → t.length + 6 * j < 2 ^ 28 → u + j < 2 ^ 30 → (∀ h', MS P S n0 A0 k (t ++ txE D j u) (u + j) ar w nl h' → wp (d + 3) 121 48 [some (.ref 135), some (.int (nI m)), some (.int (nI (m % 5)))] [] h' Q) → wp (d + 3) 121 22 [some (.ref 135), some (.int (nI m)), some (.int (nI i))] [] h Q := by
  have h5 : ¬ (5 : Int32) = 0 := by decide
  have e1 : nI m - nI m / 5 * 5 = nI (m % 5) := pk_rem (d := 5) hm (by decide) (by decide)
  intro j
  induction j with
  | zero =>
    intro i h t u hi M hb hu K
    have e2 : ¬ nI i < nI (m % 5) := nI_nlt (by omega) (by omega)
    simp only [k_121_22, k_121_23, k_121_24, k_121_25 h5, k_121_26, e1, e2, if_false, am_cat, am_kill, Value.category, List.map_cons, List.map_nil, List.sum_cons, List.sum_nil, Option.toList_some, Option.toList_none, List.cons_append, List.nil_append, List.length_cons, List.length_nil, List.getD_cons_succ, List.getD_cons_zero, List.set_cons_succ, List.set_cons_zero, Nat.reduceAdd, Nat.reduceLT, Nat.reduceLeDiff, Nat.zero_le, Nat.zero_add, Nat.add_zero]
    rw [show i = m % 5 by omega]
    exact K h (by rw [show txE D 0 u = [] from rfl, List.append_nil]; exact M)
  | succ j ih =>
    intro i h t u hi M hb hu K
    have e2 : nI i < nI (m % 5) := nI_lt (by omega) (by omega)
    simp only [k_121_22, k_121_23, k_121_24, k_121_25 h5, k_121_26, k_121_29, k_121_29N, k_121_30, k_121_30N, k_121_31, e1, e2, if_true, M.ov hP, am_cat, am_kill, Value.category, List.map_cons, List.map_nil, List.sum_cons, List.sum_nil, Option.toList_some, Option.toList_none, List.cons_append, List.nil_append, List.length_cons, List.length_nil, List.getD_cons_succ, List.getD_cons_zero, List.set_cons_succ, List.set_cons_zero, Nat.reduceAdd, Nat.reduceLT, Nat.reduceLeDiff, Nat.zero_le, Nat.zero_add, Nat.add_zero]
    refine mi_next hP X M (by omega) (fun h1 M1 => ?_)
    obtain ⟨c, hc, ec⟩ := pk_andE (nx D u) (m := 65535) 16 (by decide)
    have hch : chr (nx D u &&& 65535) := by rw [ec]; exact chr_nI hc
    simp only [k_121_36, k_121_37, k_121_34, k_121_39, M1.ov hP, am_cat, am_kill, Value.category, List.map_cons, List.map_nil, List.sum_cons, List.sum_nil, Option.toList_some, Option.toList_none, List.cons_append, List.nil_append, List.length_cons, List.length_nil, List.getD_cons_succ, List.getD_cons_zero, List.set_cons_succ, List.set_cons_zero, Nat.reduceAdd, Nat.reduceLT, Nat.reduceLeDiff, Nat.zero_le, Nat.zero_add, Nat.add_zero]
    have cl := chE_len (nx D u &&& 65535) 34
    refine mi_char hP hk hch (Or.inr rfl) M1 (by omega) (fun h2 M2 => ?_)
    simp only [k_121_42, k_121_45, nI_1, am_cat, am_kill, Value.category, List.map_cons, List.map_nil, List.sum_cons, List.sum_nil, Option.toList_some, Option.toList_none, List.cons_append, List.nil_append, List.length_cons, List.length_nil, List.getD_cons_succ, List.getD_cons_zero, List.set_cons_succ, List.set_cons_zero, Nat.reduceAdd, Nat.reduceLT, Nat.reduceLeDiff, Nat.zero_le, Nat.zero_add, Nat.add_zero]
    refine ih (i + 1) h2 _ _ (by omega) M2 (by rw [List.length_append]; omega) (by omega) (fun h3 M3 => ?_)
    rw [List.append_assoc, show u + 1 + j = u + (j + 1) by omega] at M3
    exact K h3 M3
theorem mi_texts (hP : P.length = 135) (hk : k < 4) (X : Mst n0 A0 D) (hu : u < 2 ^ 29) (M : MS P S n0 A0 k t u ar w 0 h) (hb : t.length < 2 ^ 27) (K : ∀ h', MS P S n0 A0 k (t ++ (litS D 84 u).1) (litS D 84 u).2 ar w (if nx D u < 0 then 1 else 0) h' → Q none h') : wp (d + 3) 121 0 [some (.ref 135), none, none] [] h Q := by
  have e : litS D 84 u = (if nx D u < 0 then (sx 4, u + 1) else ([34] ++ (txE D ((nx D u).toNatClampNeg % 5) (u + 1) ++ [34]), u + 1 + (nx D u).toNatClampNeg % 5)) := rfl
  rw [e] at K
  simp only [k_121_0, k_121_0N, k_121_1, M.ov hP, am_cat, am_kill, Value.category, List.map_cons, List.map_nil, List.sum_cons, List.sum_nil, Option.toList_some, Option.toList_none, List.cons_append, List.nil_append, List.length_cons, List.length_nil, List.getD_cons_succ, List.getD_cons_zero, List.set_cons_succ, List.set_cons_zero, Nat.reduceAdd, Nat.reduceLT, Nat.reduceLeDiff, Nat.zero_le, Nat.zero_add, Nat.add_zero]
  refine mi_next hP X M (by omega) (fun h1 M1 => ?_)
  simp only [k_121_4, k_121_5, k_121_6, am_cat, am_kill, Value.category, List.map_cons, List.map_nil, List.sum_cons, List.sum_nil, Option.toList_some, Option.toList_none, List.cons_append, List.nil_append, List.length_cons, List.length_nil, List.getD_cons_succ, List.getD_cons_zero, List.set_cons_succ, List.set_cons_zero, Nat.reduceAdd, Nat.reduceLT, Nat.reduceLeDiff, Nat.zero_le, Nat.zero_add, Nat.add_zero]
  by_cases c : nx D u < 0
  · simp only [if_pos c] at K ⊢
    simp only [k_121_9, k_121_9N, k_121_10, M1.ov hP, am_cat, am_kill, Value.category, List.map_cons, List.map_nil, List.sum_cons, List.sum_nil, Option.toList_some, Option.toList_none, List.cons_append, List.nil_append, List.length_cons, List.length_nil, List.getD_cons_succ, List.getD_cons_zero, List.set_cons_succ, List.set_cons_zero, Nat.reduceAdd, Nat.reduceLT, Nat.reduceLeDiff, Nat.zero_le, Nat.zero_add, Nat.add_zero]
    refine mi_nothing hP hk M1 (by omega) (fun h2 M2 => ?_)
    simp only [k_121_13, am_cat, am_kill, Value.category, List.map_cons, List.map_nil, List.sum_cons, List.sum_nil, Option.toList_some, Option.toList_none, List.cons_append, List.nil_append, List.length_cons, List.length_nil, List.getD_cons_succ, List.getD_cons_zero, List.set_cons_succ, List.set_cons_zero, Nat.reduceAdd, Nat.reduceLT, Nat.reduceLeDiff, Nat.zero_le, Nat.zero_add, Nat.add_zero]
    exact K h2 M2
  · simp only [if_neg c] at K ⊢
    obtain ⟨m, hm, em⟩ := nI_of c
    rw [em, nI_clamp hm] at K
    rw [em]
    have tl := txE_len D (m % 5) (u + 1)
    simp only [k_121_14, k_121_14N, k_121_15, k_121_17, M1.ov hP, am_cat, am_kill, Value.category, List.map_cons, List.map_nil, List.sum_cons, List.sum_nil, Option.toList_some, Option.toList_none, List.cons_append, List.nil_append, List.length_cons, List.length_nil, List.getD_cons_succ, List.getD_cons_zero, List.set_cons_succ, List.set_cons_zero, Nat.reduceAdd, Nat.reduceLT, Nat.reduceLeDiff, Nat.zero_le, Nat.zero_add, Nat.add_zero]
    refine mi_put hP hk ⟨by decide, by decide⟩ M1 (by omega) (fun h2 M2 => ?_)
    simp only [k_121_20, k_121_21, am_cat, am_kill, Value.category, List.map_cons, List.map_nil, List.sum_cons, List.sum_nil, Option.toList_some, Option.toList_none, List.cons_append, List.nil_append, List.length_cons, List.length_nil, List.getD_cons_succ, List.getD_cons_zero, List.set_cons_succ, List.set_cons_zero, Nat.reduceAdd, Nat.reduceLT, Nat.reduceLeDiff, Nat.zero_le, Nat.zero_add, Nat.add_zero]
    refine mi_txt_loop hP hk hm X (m % 5) 0 h2 _ _ (by omega) M2 (by rw [List.length_append]; show t.length + 1 + _ < _; omega) (by omega) (fun h3 M3 => ?_)
    simp only [k_121_48, k_121_48N, k_121_49, k_121_51, M3.ov hP, am_cat, am_kill, Value.category, List.map_cons, List.map_nil, List.sum_cons, List.sum_nil, Option.toList_some, Option.toList_none, List.cons_append, List.nil_append, List.length_cons, List.length_nil, List.getD_cons_succ, List.getD_cons_zero, List.set_cons_succ, List.set_cons_zero, Nat.reduceAdd, Nat.reduceLT, Nat.reduceLeDiff, Nat.zero_le, Nat.zero_add, Nat.add_zero]
    refine mi_put hP hk ⟨by decide, by decide⟩ M3 (by simp only [List.length_append, List.length_cons, List.length_nil]; omega) (fun h4 M4 => ?_)
    simp only [k_121_54, am_cat, am_kill, Value.category, List.map_cons, List.map_nil, List.sum_cons, List.sum_nil, Option.toList_some, Option.toList_none, List.cons_append, List.nil_append, List.length_cons, List.length_nil, List.getD_cons_succ, List.getD_cons_zero, List.set_cons_succ, List.set_cons_zero, Nat.reduceAdd, Nat.reduceLT, Nat.reduceLeDiff, Nat.zero_le, Nat.zero_add, Nat.add_zero]
    refine K h4 ?_
    simp only [List.append_assoc] at M4
    exact M4
theorem mi_whole (hP : P.length = 135) (hk : k < 4) {c : Int32} (hc : c = 66 ∨ c = 83 ∨ c = 73) (X : Mst n0 A0 D) (hu : u < 2 ^ 29) (M : MS P S n0 A0 k t u ar w nl h) (hb : t.length < 2 ^ 27) (K : ∀ h', MS P S n0 A0 k (t ++ (litS D c u).1) (u + 1) ar w nl h' → Q none h') : wp (d + 3) 123 0 [some (.ref 135), some (.int c), none] [] h Q := by
  have ib : ∀ x : Int32, x.toInt64.toInt.natAbs < 2 ^ 63 := fun x => by
    rw [Int32.toInt_toInt64]
    have := x.le_toInt
    have := x.toInt_lt
    omega
  simp only [k_123_0, k_123_0N, k_123_1, M.ov hP, am_cat, am_kill, Value.category, List.map_cons, List.map_nil, List.sum_cons, List.sum_nil, Option.toList_some, Option.toList_none, List.cons_append, List.nil_append, List.length_cons, List.length_nil, List.getD_cons_succ, List.getD_cons_zero, List.set_cons_succ, List.set_cons_zero, Nat.reduceAdd, Nat.reduceLT, Nat.reduceLeDiff, Nat.zero_le, Nat.zero_add, Nat.add_zero]
  refine mi_next hP X M (by omega) (fun h1 M1 => ?_)
  have f1 : ((66 : Int32) = 83) ↔ False := by decide
  have f2 : ((66 : Int32) = 73) ↔ False := by decide
  have f3 : ((83 : Int32) = 66) ↔ False := by decide
  have f4 : ((83 : Int32) = 73) ↔ False := by decide
  have f5 : ((73 : Int32) = 66) ↔ False := by decide
  have f6 : ((73 : Int32) = 83) ↔ False := by decide
  rcases hc with rfl | rfl | rfl
  · have e : (litS D 66 u).1 = sx 19 ++ num (nx D u).toInt8.toInt32.toInt := rfl
    rw [e] at K
    have sl := sxl 19
    simp only [k_123_4, k_123_5, k_123_6, k_123_8, k_123_11, k_123_11N, k_123_12, k_123_15, if_true, M1.ov hP, am_cat, am_kill, Value.category, List.map_cons, List.map_nil, List.sum_cons, List.sum_nil, Option.toList_some, Option.toList_none, List.cons_append, List.nil_append, List.length_cons, List.length_nil, List.getD_cons_succ, List.getD_cons_zero, List.set_cons_succ, List.set_cons_zero, Nat.reduceAdd, Nat.reduceLT, Nat.reduceLeDiff, Nat.zero_le, Nat.zero_add, Nat.add_zero]
    refine mi_wordc hP hk (sx 19) (by decide) M1 (by omega) (fun h2 M2 => ?_)
    simp only [k_123_18, k_123_19, k_123_21, k_123_31, k_123_32, k_123_34, k_123_53, k_123_53N, k_123_54, k_123_55, k_123_57, k_123_60, k_123_61, k_123_62, k_123_63, k_123_80, f1, f2, if_true, if_false, M2.ov hP, am_cat, am_kill, Value.category, List.map_cons, List.map_nil, List.sum_cons, List.sum_nil, Option.toList_some, Option.toList_none, List.cons_append, List.nil_append, List.length_cons, List.length_nil, List.getD_cons_succ, List.getD_cons_zero, List.set_cons_succ, List.set_cons_zero, Nat.reduceAdd, Nat.reduceLT, Nat.reduceLeDiff, Nat.zero_le, Nat.zero_add, Nat.add_zero]
    refine mi_num hP hk (ib _) M2 (by rw [List.length_append]; omega) (fun h3 M3 => ?_)
    simp only [k_123_83, am_cat, am_kill, Value.category, List.map_cons, List.map_nil, List.sum_cons, List.sum_nil, Option.toList_some, Option.toList_none, List.cons_append, List.nil_append, List.length_cons, List.length_nil, List.getD_cons_succ, List.getD_cons_zero, List.set_cons_succ, List.set_cons_zero, Nat.reduceAdd, Nat.reduceLT, Nat.reduceLeDiff, Nat.zero_le, Nat.zero_add, Nat.add_zero]
    rw [Int32.toInt_toInt64, List.append_assoc] at M3
    exact K h3 M3
  · have e : (litS D 83 u).1 = sx 20 ++ num (nx D u).toInt16.toInt32.toInt := rfl
    rw [e] at K
    have sl := sxl 20
    simp only [k_123_4, k_123_5, k_123_6, k_123_8, k_123_18, k_123_19, k_123_21, k_123_24, k_123_24N, k_123_25, k_123_28, f3, if_true, if_false, M1.ov hP, am_cat, am_kill, Value.category, List.map_cons, List.map_nil, List.sum_cons, List.sum_nil, Option.toList_some, Option.toList_none, List.cons_append, List.nil_append, List.length_cons, List.length_nil, List.getD_cons_succ, List.getD_cons_zero, List.set_cons_succ, List.set_cons_zero, Nat.reduceAdd, Nat.reduceLT, Nat.reduceLeDiff, Nat.zero_le, Nat.zero_add, Nat.add_zero]
    refine mi_wordc hP hk (sx 20) (by decide) M1 (by omega) (fun h2 M2 => ?_)
    simp only [k_123_31, k_123_32, k_123_34, k_123_53, k_123_53N, k_123_54, k_123_55, k_123_57, k_123_66, k_123_67, k_123_69, k_123_72, k_123_73, k_123_74, k_123_75, k_123_80, f3, f4, if_true, if_false, M2.ov hP, am_cat, am_kill, Value.category, List.map_cons, List.map_nil, List.sum_cons, List.sum_nil, Option.toList_some, Option.toList_none, List.cons_append, List.nil_append, List.length_cons, List.length_nil, List.getD_cons_succ, List.getD_cons_zero, List.set_cons_succ, List.set_cons_zero, Nat.reduceAdd, Nat.reduceLT, Nat.reduceLeDiff, Nat.zero_le, Nat.zero_add, Nat.add_zero]
    refine mi_num hP hk (ib _) M2 (by rw [List.length_append]; omega) (fun h3 M3 => ?_)
    simp only [k_123_83, am_cat, am_kill, Value.category, List.map_cons, List.map_nil, List.sum_cons, List.sum_nil, Option.toList_some, Option.toList_none, List.cons_append, List.nil_append, List.length_cons, List.length_nil, List.getD_cons_succ, List.getD_cons_zero, List.set_cons_succ, List.set_cons_zero, Nat.reduceAdd, Nat.reduceLT, Nat.reduceLeDiff, Nat.zero_le, Nat.zero_add, Nat.add_zero]
    rw [Int32.toInt_toInt64, List.append_assoc] at M3
    exact K h3 M3
  · have e : (litS D 73 u).1 = intL (nx D u) := rfl
    rw [e] at K
    unfold intL at K
    simp only [k_123_4, k_123_5, k_123_6, k_123_8, k_123_18, k_123_19, k_123_21, k_123_31, k_123_32, k_123_34, k_123_37, k_123_40, k_123_38, f5, f6, if_true, if_false, am_cat, am_kill, Value.category, List.map_cons, List.map_nil, List.sum_cons, List.sum_nil, Option.toList_some, Option.toList_none, List.cons_append, List.nil_append, List.length_cons, List.length_nil, List.getD_cons_succ, List.getD_cons_zero, List.set_cons_succ, List.set_cons_zero, Nat.reduceAdd, Nat.reduceLT, Nat.reduceLeDiff, Nat.zero_le, Nat.zero_add, Nat.add_zero]
    by_cases c1 : nx D u = -2147483648
    · rw [if_pos c1] at K ⊢
      simp only [k_123_43, k_123_43N, k_123_44, k_123_47, M1.ov hP, am_cat, am_kill, Value.category, List.map_cons, List.map_nil, List.sum_cons, List.sum_nil, Option.toList_some, Option.toList_none, List.cons_append, List.nil_append, List.length_cons, List.length_nil, List.getD_cons_succ, List.getD_cons_zero, List.set_cons_succ, List.set_cons_zero, Nat.reduceAdd, Nat.reduceLT, Nat.reduceLeDiff, Nat.zero_le, Nat.zero_add, Nat.add_zero]
      refine mi_least hP hk (sx 26) (by decide) (by decide) M1 (by omega) (fun h2 M2 => ?_)
      simp only [k_123_50, k_123_83, am_cat, am_kill, Value.category, List.map_cons, List.map_nil, List.sum_cons, List.sum_nil, Option.toList_some, Option.toList_none, List.cons_append, List.nil_append, List.length_cons, List.length_nil, List.getD_cons_succ, List.getD_cons_zero, List.set_cons_succ, List.set_cons_zero, Nat.reduceAdd, Nat.reduceLT, Nat.reduceLeDiff, Nat.zero_le, Nat.zero_add, Nat.add_zero]
      exact K h2 M2
    · rw [if_neg c1] at K ⊢
      simp only [k_123_53, k_123_53N, k_123_54, k_123_55, k_123_57, k_123_66, k_123_67, k_123_69, k_123_78, k_123_79, k_123_80, f5, f6, if_false, M1.ov hP, am_cat, am_kill, Value.category, List.map_cons, List.map_nil, List.sum_cons, List.sum_nil, Option.toList_some, Option.toList_none, List.cons_append, List.nil_append, List.length_cons, List.length_nil, List.getD_cons_succ, List.getD_cons_zero, List.set_cons_succ, List.set_cons_zero, Nat.reduceAdd, Nat.reduceLT, Nat.reduceLeDiff, Nat.zero_le, Nat.zero_add, Nat.add_zero]
      refine mi_num hP hk (ib _) M1 (by omega) (fun h2 M2 => ?_)
      simp only [k_123_83, am_cat, am_kill, Value.category, List.map_cons, List.map_nil, List.sum_cons, List.sum_nil, Option.toList_some, Option.toList_none, List.cons_append, List.nil_append, List.length_cons, List.length_nil, List.getD_cons_succ, List.getD_cons_zero, List.set_cons_succ, List.set_cons_zero, Nat.reduceAdd, Nat.reduceLT, Nat.reduceLeDiff, Nat.zero_le, Nat.zero_add, Nat.add_zero]
      rw [Int32.toInt_toInt64] at M2
      exact K h2 M2
end ML
