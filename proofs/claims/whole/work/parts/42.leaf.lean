/-! BUILDING: values that hold no others -/
def txE (D : List Int32) : Nat → Nat → List Int32
  | 0, _ => []
  | k + 1, u => chE (nx D u &&& 65535) 34 ++ txE D k (u + 1)
theorem txE_len (D : List Int32) : ∀ k u, (txE D k u).length ≤ 6 * k := by
  intro k
  induction k with
  | zero => intro u; exact Nat.le_refl _
  | succ k ih =>
    intro u
    show (chE _ 34 ++ txE D k (u + 1)).length ≤ _
    have := ih (u + 1)
    have := chE_len (nx D u &&& 65535) 34
    rw [List.length_append]
    omega
def litS (D : List Int32) (c : Int32) (u : Nat) : List Int32 × Nat := if c = 90 then ((if nx D u &&& 1 = 0 then sx 18 else sx 17), u + 1) else if c = 66 then (sx 19 ++ num (nx D u).toInt8.toInt32.toInt, u + 1) else if c = 67 then ([39] ++ (chE (nx D u &&& 65535) 39 ++ [39]), u + 1) else if c = 83 then (sx 20 ++ num (nx D u).toInt16.toInt32.toInt, u + 1) else if c = 73 then (intL (nx D u), u + 1) else if c = 74 then (lngL (nx D u) (nx D (u + 1)), u + 2) else if c = 70 then (eigL (rnd (nx D u)).toInt ++ [102], u + 1) else if c = 68 then (eigL (nx D u).toInt, u + 1) else (if nx D u < 0 then (sx 4, u + 1) else ([34] ++ (txE D ((nx D u).toNatClampNeg % 5) (u + 1) ++ [34]), u + 1 + (nx D u).toNatClampNeg % 5))
theorem litS_len (D : List Int32) (c : Int32) (u : Nat) : (litS D c u).1.length ≤ 60 := by
  have a1 := sxl 17
  have a2 := sxl 18
  have a3 := sxl 19
  have a4 := sxl 20
  have a5 := sxl 4
  have a6 := sxl 26
  have a7 := sxl 27
  have b1 := num_len (nx D u).toInt8.toInt32.toInt
  have b2 := num_len (nx D u).toInt16.toInt32.toInt
  have b3 := num_len (nx D u).toInt
  have b4 := num_len (lngV (nx D u) (nx D (u + 1))).toInt
  have b5 := eigL_len (rnd (nx D u)).toInt
  have b6 := eigL_len (nx D u).toInt
  have b7 := chE_len (nx D u &&& 65535) 39
  have b8 := txE_len D ((nx D u).toNatClampNeg % 5) (u + 1)
  have b9 : (nx D u).toNatClampNeg % 5 < 5 := Nat.mod_lt _ (by decide)
  unfold litS
  split
  · show (if _ then _ else _ : List Int32).length ≤ 60
    split <;> omega
  split
  · simp only [List.length_append]; omega
  split
  · simp only [List.length_append, List.length_cons, List.length_nil]; omega
  split
  · simp only [List.length_append]; omega
  split
  · show (intL (nx D u)).length ≤ 60
    unfold intL
    split
    · omega
    · omega
  split
  · unfold lngL
    split
    · show (sx 27).length ≤ 60; omega
    · simp only [List.length_append, List.length_cons, List.length_nil]; omega
  split
  · simp only [List.length_append, List.length_cons, List.length_nil]; omega
  split
  · show (eigL (nx D u).toInt).length ≤ 60
    omega
  split
  · show (sx 4).length ≤ 60
    omega
  · simp only [List.length_append, List.length_cons, List.length_nil]; omega
theorem litS_mono (D : List Int32) (c : Int32) (u : Nat) : u + 1 ≤ (litS D c u).2 := by
  unfold litS
  repeat (first | (split; · exact Nat.le_refl _) | (split; · exact Nat.le_succ _) | exact Nat.le_add_right _ _)
def okT (τ : Ty) : Prop := τ.1 ≤ 3 ∧ τ.2.2 < 4 ∧ (τ.2.1 = 79 ∨ τ.2.1 ∈ sgl)
/-- what stays of the builder -/
def En (g : AH) (R : List (List Ty)) : Prop := Sta g ∧ g[111]? = some (.inr 4, [.ref 112, .ref 114]) ∧ ∃ rr : List Nat, g[114]? = some (.inl (.object "TestEmitter$TypeRow"), rr.map Value.ref) ∧ rr.length = 4 ∧ ∀ k r, rr[k]? = some r → ∃ q, Row g r q (R.getD k []) ∧ ∀ τ ∈ R.getD k [], okT τ
section LEAF
variable {g h : AH} {a ar0 d u : Nat} {cs0 vs : List Value} {D t : List Int32} {R : List (List Ty)} {Q : Option Value → AH → Prop}
theorem En.b1 (E : En g R) (B : BI g a ar0 cs0 D vs h t u) : h[111]? = some (.inr 4, [.ref 112, .ref 114]) := B.st E.2.1 (by simp) (by simp) (by simp)
theorem bi_long (B : BI g a ar0 cs0 D vs h t u) (E : En g R) (hb : t.length < 2 ^ 18) (K : ∀ h', BI g a ar0 cs0 D vs h' (t ++ lngL (nx D u) (nx D (u + 1))) (u + 2) → Q none h') : wp (d + 5) 50 0 [some (.ref 111), some (.ref a), none, none, none, none, none, none] [] h Q := by
  have b1 := E.b1 B
  simp only [k_50_0, k_50_0N, k_50_1, k_50_4, okG_iff b1, fld_of b1, B.od, am_cat, am_kill, Value.category, List.map_cons, List.map_nil, List.sum_cons, List.sum_nil, Option.toList_some, Option.toList_none, List.cons_append, List.nil_append, List.length_cons, List.length_nil, List.getD_cons_succ, List.getD_cons_zero, List.set_cons_succ, List.set_cons_zero, Nat.reduceAdd, Nat.reduceLT, Nat.reduceLeDiff, Nat.zero_le, Nat.zero_add, Nat.add_zero]
  refine bi_next B (fun h1 B1 => ?_)
  have b2 := E.b1 B1
  simp only [k_50_7, k_50_8, k_50_9, k_50_9N, k_50_10, k_50_13, okG_iff b2, fld_of b2, B1.od, am_cat, am_kill, Value.category, List.map_cons, List.map_nil, List.sum_cons, List.sum_nil, Option.toList_some, Option.toList_none, List.cons_append, List.nil_append, List.length_cons, List.length_nil, List.getD_cons_succ, List.getD_cons_zero, List.set_cons_succ, List.set_cons_zero, Nat.reduceAdd, Nat.reduceLT, Nat.reduceLeDiff, Nat.zero_le, Nat.zero_add, Nat.add_zero]
  refine bi_next B1 (fun h2 B2 => ?_)
  have e1 : (nx D u).toInt64 <<< ((32 : Int32).toInt64 &&& 63) + ((nx D (u + 1)).toInt64 &&& 4294967295) = lngV (nx D u) (nx D (u + 1)) := rfl
  simp only [k_50_16, k_50_20, k_50_21, k_50_23, k_50_24, k_50_26, k_50_27, k_50_29, k_50_30, k_50_32, k_50_37, k_50_38, k_50_17, k_50_34, lg_cmp_eq, e1, am_cat, am_kill, Value.category, List.map_cons, List.map_nil, List.sum_cons, List.sum_nil, Option.toList_some, Option.toList_none, List.cons_append, List.nil_append, List.length_cons, List.length_nil, List.getD_cons_succ, List.getD_cons_zero, List.set_cons_succ, List.set_cons_zero, Nat.reduceAdd, Nat.reduceLT, Nat.reduceLeDiff, Nat.zero_le, Nat.zero_add, Nat.add_zero]
  unfold lngL at K
  by_cases c : lngV (nx D u) (nx D (u + 1)) = Int64.ofNat 9223372036854775808
  · rw [if_pos c] at K ⊢
    simp only [k_50_41, k_50_41N, k_50_42, k_50_44, B2.ov, am_cat, am_kill, Value.category, List.map_cons, List.map_nil, List.sum_cons, List.sum_nil, Option.toList_some, Option.toList_none, List.cons_append, List.nil_append, List.length_cons, List.length_nil, List.getD_cons_succ, List.getD_cons_zero, List.set_cons_succ, List.set_cons_zero, Nat.reduceAdd, Nat.reduceLT, Nat.reduceLeDiff, Nat.zero_le, Nat.zero_add, Nat.add_zero]
    refine bi_puts (i := 27) B2 E.1 (by decide) (by omega) (fun h3 B3 => ?_)
    simp only [k_50_47, k_50_62, am_cat, am_kill, Value.category, List.map_cons, List.map_nil, List.sum_cons, List.sum_nil, Option.toList_some, Option.toList_none, List.cons_append, List.nil_append, List.length_cons, List.length_nil, List.getD_cons_succ, List.getD_cons_zero, List.set_cons_succ, List.set_cons_zero, Nat.reduceAdd, Nat.reduceLT, Nat.reduceLeDiff, Nat.zero_le, Nat.zero_add, Nat.add_zero]
    exact K h3 B3
  · rw [if_neg c] at K ⊢
    have nl := num_len (lngV (nx D u) (nx D (u + 1))).toInt
    simp only [k_50_50, k_50_50N, k_50_51, k_50_53, B2.ov, am_cat, am_kill, Value.category, List.map_cons, List.map_nil, List.sum_cons, List.sum_nil, Option.toList_some, Option.toList_none, List.cons_append, List.nil_append, List.length_cons, List.length_nil, List.getD_cons_succ, List.getD_cons_zero, List.set_cons_succ, List.set_cons_zero, Nat.reduceAdd, Nat.reduceLT, Nat.reduceLeDiff, Nat.zero_le, Nat.zero_add, Nat.add_zero]
    refine bi_num B2 (by omega) (fun h3 B3 => ?_)
    simp only [k_50_56, k_50_56N, k_50_57, k_50_59, B3.ov, am_cat, am_kill, Value.category, List.map_cons, List.map_nil, List.sum_cons, List.sum_nil, Option.toList_some, Option.toList_none, List.cons_append, List.nil_append, List.length_cons, List.length_nil, List.getD_cons_succ, List.getD_cons_zero, List.set_cons_succ, List.set_cons_zero, Nat.reduceAdd, Nat.reduceLT, Nat.reduceLeDiff, Nat.zero_le, Nat.zero_add, Nat.add_zero]
    refine bi_put B3 ⟨by decide, by decide⟩ (by rw [List.length_append]; omega) (fun h4 B4 => ?_)
    simp only [k_50_62, am_cat, am_kill, Value.category, List.map_cons, List.map_nil, List.sum_cons, List.sum_nil, Option.toList_some, Option.toList_none, List.cons_append, List.nil_append, List.length_cons, List.length_nil, List.getD_cons_succ, List.getD_cons_zero, List.set_cons_succ, List.set_cons_zero, Nat.reduceAdd, Nat.reduceLT, Nat.reduceLeDiff, Nat.zero_le, Nat.zero_add, Nat.add_zero]
    exact K h4 (by rw [List.append_assoc] at B4; exact B4)
theorem bi_txt_loop {m : Nat} (hm : m < 2 ^ 31) (E : En g R) : ∀ (k i : Nat) (h : AH) (t : List Int32) (u : Nat), i + k = m % 5 → BI g a ar0 cs0 D vs h t u → t.length + 6 * k < 2 ^ 18 → (∀ h', BI g a ar0 cs0 D vs h' (t ++ txE D k u) (u + k) → wp (d + 6) 52 53 [some (.ref 111), some (.ref a), some (.int (nI m)), some (.int (nI (m % 5)))] [] h' Q) → wp (d + 6) 52 27 [some (.ref 111), some (.ref a), some (.int (nI m)), some (.int (nI i))] [] h Q := by
  have h5 : ¬ (5 : Int32) = 0 := by decide
  have e1 : nI m - nI m / 5 * 5 = nI (m % 5) := pk_rem (d := 5) hm (by decide) (by decide)
  intro k
  induction k with
  | zero =>
    intro i h t u hi B hb K
    have e2 : ¬ nI i < nI (m % 5) := nI_nlt (by omega) (by omega)
    simp only [k_52_27, k_52_28, k_52_29, k_52_30 h5, k_52_31, e1, e2, if_false, am_cat, am_kill, Value.category, List.map_cons, List.map_nil, List.sum_cons, List.sum_nil, Option.toList_some, Option.toList_none, List.cons_append, List.nil_append, List.length_cons, List.length_nil, List.getD_cons_succ, List.getD_cons_zero, List.set_cons_succ, List.set_cons_zero, Nat.reduceAdd, Nat.reduceLT, Nat.reduceLeDiff, Nat.zero_le, Nat.zero_add, Nat.add_zero]
    rw [show i = m % 5 by omega]
    exact K h (by rw [show txE D 0 u = [] from rfl, List.append_nil]; exact B)
  | succ k ih =>
    intro i h t u hi B hb K
    have e2 : nI i < nI (m % 5) := nI_lt (by omega) (by omega)
    have b1 := E.b1 B
    simp only [k_52_27, k_52_28, k_52_29, k_52_30 h5, k_52_31, k_52_34, k_52_34N, k_52_35, k_52_38, e1, e2, if_true, okG_iff b1, fld_of b1, B.od, am_cat, am_kill, Value.category, List.map_cons, List.map_nil, List.sum_cons, List.sum_nil, Option.toList_some, Option.toList_none, List.cons_append, List.nil_append, List.length_cons, List.length_nil, List.getD_cons_succ, List.getD_cons_zero, List.set_cons_succ, List.set_cons_zero, Nat.reduceAdd, Nat.reduceLT, Nat.reduceLeDiff, Nat.zero_le, Nat.zero_add, Nat.add_zero]
    refine bi_next B (fun h1 B1 => ?_)
    simp only [k_52_41, k_52_43, k_52_43N, k_52_44, am_cat, am_kill, Value.category, List.map_cons, List.map_nil, List.sum_cons, List.sum_nil, Option.toList_some, Option.toList_none, List.cons_append, List.nil_append, List.length_cons, List.length_nil, List.getD_cons_succ, List.getD_cons_zero, List.set_cons_succ, List.set_cons_zero, Nat.reduceAdd, Nat.reduceLT, Nat.reduceLeDiff, Nat.zero_le, Nat.zero_add, Nat.add_zero]
    have cl := chE_len (nx D u &&& 65535) 34
    refine bi_char B1 E.1 (Or.inr rfl) (by omega) (fun h2 B2 => ?_)
    simp only [k_52_47, k_52_50, nI_1, am_cat, am_kill, Value.category, List.map_cons, List.map_nil, List.sum_cons, List.sum_nil, Option.toList_some, Option.toList_none, List.cons_append, List.nil_append, List.length_cons, List.length_nil, List.getD_cons_succ, List.getD_cons_zero, List.set_cons_succ, List.set_cons_zero, Nat.reduceAdd, Nat.reduceLT, Nat.reduceLeDiff, Nat.zero_le, Nat.zero_add, Nat.add_zero]
    refine ih (i + 1) h2 _ _ (by omega) B2 (by rw [List.length_append]; omega) (fun h3 B3 => ?_)
    rw [List.append_assoc, show u + 1 + k = u + (k + 1) by omega] at B3
    exact K h3 B3
theorem bi_text (B : BI g a ar0 cs0 D vs h t u) (E : En g R) (hb : t.length < 2 ^ 17) (K : ∀ h', BI g a ar0 cs0 D vs h' (t ++ (if nx D u < 0 then (sx 4, u + 1) else ([34] ++ (txE D ((nx D u).toNatClampNeg % 5) (u + 1) ++ [34]), u + 1 + (nx D u).toNatClampNeg % 5) : List Int32 × Nat).1) (if nx D u < 0 then (sx 4, u + 1) else ([34] ++ (txE D ((nx D u).toNatClampNeg % 5) (u + 1) ++ [34]), u + 1 + (nx D u).toNatClampNeg % 5) : List Int32 × Nat).2 → Q none h') : wp (d + 6) 52 0 [some (.ref 111), some (.ref a), none, none] [] h Q := by
  have b1 := E.b1 B
  simp only [k_52_0, k_52_0N, k_52_1, k_52_4, okG_iff b1, fld_of b1, B.od, am_cat, am_kill, Value.category, List.map_cons, List.map_nil, List.sum_cons, List.sum_nil, Option.toList_some, Option.toList_none, List.cons_append, List.nil_append, List.length_cons, List.length_nil, List.getD_cons_succ, List.getD_cons_zero, List.set_cons_succ, List.set_cons_zero, Nat.reduceAdd, Nat.reduceLT, Nat.reduceLeDiff, Nat.zero_le, Nat.zero_add, Nat.add_zero]
  refine bi_next B (fun h1 B1 => ?_)
  simp only [k_52_7, k_52_8, k_52_9, am_cat, am_kill, Value.category, List.map_cons, List.map_nil, List.sum_cons, List.sum_nil, Option.toList_some, Option.toList_none, List.cons_append, List.nil_append, List.length_cons, List.length_nil, List.getD_cons_succ, List.getD_cons_zero, List.set_cons_succ, List.set_cons_zero, Nat.reduceAdd, Nat.reduceLT, Nat.reduceLeDiff, Nat.zero_le, Nat.zero_add, Nat.add_zero]
  by_cases c : nx D u < 0
  · rw [if_pos c] at K ⊢
    simp only [k_52_12, k_52_12N, k_52_13, k_52_15, B1.ov, am_cat, am_kill, Value.category, List.map_cons, List.map_nil, List.sum_cons, List.sum_nil, Option.toList_some, Option.toList_none, List.cons_append, List.nil_append, List.length_cons, List.length_nil, List.getD_cons_succ, List.getD_cons_zero, List.set_cons_succ, List.set_cons_zero, Nat.reduceAdd, Nat.reduceLT, Nat.reduceLeDiff, Nat.zero_le, Nat.zero_add, Nat.add_zero]
    refine bi_puts (i := 4) B1 E.1 (by decide) (by omega) (fun h2 B2 => ?_)
    simp only [k_52_18, am_cat, am_kill, Value.category, List.map_cons, List.map_nil, List.sum_cons, List.sum_nil, Option.toList_some, Option.toList_none, List.cons_append, List.nil_append, List.length_cons, List.length_nil, List.getD_cons_succ, List.getD_cons_zero, List.set_cons_succ, List.set_cons_zero, Nat.reduceAdd, Nat.reduceLT, Nat.reduceLeDiff, Nat.zero_le, Nat.zero_add, Nat.add_zero]
    exact K h2 B2
  · rw [if_neg c] at K ⊢
    obtain ⟨m, hm, em⟩ := nI_of c
    rw [em, nI_clamp hm] at K
    rw [em]
    have tl := txE_len D (m % 5) (u + 1)
    simp only [k_52_19, k_52_19N, k_52_20, k_52_22, B1.ov, am_cat, am_kill, Value.category, List.map_cons, List.map_nil, List.sum_cons, List.sum_nil, Option.toList_some, Option.toList_none, List.cons_append, List.nil_append, List.length_cons, List.length_nil, List.getD_cons_succ, List.getD_cons_zero, List.set_cons_succ, List.set_cons_zero, Nat.reduceAdd, Nat.reduceLT, Nat.reduceLeDiff, Nat.zero_le, Nat.zero_add, Nat.add_zero]
    refine bi_put B1 ⟨by decide, by decide⟩ (by omega) (fun h2 B2 => ?_)
    simp only [k_52_25, k_52_26, am_cat, am_kill, Value.category, List.map_cons, List.map_nil, List.sum_cons, List.sum_nil, Option.toList_some, Option.toList_none, List.cons_append, List.nil_append, List.length_cons, List.length_nil, List.getD_cons_succ, List.getD_cons_zero, List.set_cons_succ, List.set_cons_zero, Nat.reduceAdd, Nat.reduceLT, Nat.reduceLeDiff, Nat.zero_le, Nat.zero_add, Nat.add_zero]
    refine bi_txt_loop hm E (m % 5) 0 h2 _ _ (by omega) B2 (by rw [List.length_append]; show t.length + 1 + _ < _; omega) (fun h3 B3 => ?_)
    simp only [k_52_53, k_52_53N, k_52_54, k_52_56, B3.ov, am_cat, am_kill, Value.category, List.map_cons, List.map_nil, List.sum_cons, List.sum_nil, Option.toList_some, Option.toList_none, List.cons_append, List.nil_append, List.length_cons, List.length_nil, List.getD_cons_succ, List.getD_cons_zero, List.set_cons_succ, List.set_cons_zero, Nat.reduceAdd, Nat.reduceLT, Nat.reduceLeDiff, Nat.zero_le, Nat.zero_add, Nat.add_zero]
    refine bi_put B3 ⟨by decide, by decide⟩ (by simp only [List.length_append, List.length_cons, List.length_nil]; omega) (fun h4 B4 => ?_)
    simp only [k_52_59, am_cat, am_kill, Value.category, List.map_cons, List.map_nil, List.sum_cons, List.sum_nil, Option.toList_some, Option.toList_none, List.cons_append, List.nil_append, List.length_cons, List.length_nil, List.getD_cons_succ, List.getD_cons_zero, List.set_cons_succ, List.set_cons_zero, Nat.reduceAdd, Nat.reduceLT, Nat.reduceLeDiff, Nat.zero_le, Nat.zero_add, Nat.add_zero]
    refine K h4 ?_
    simp only [List.append_assoc] at B4
    exact B4
/-- a bound of what the rounding gives -/
def RndB : Prop := ∀ x : Int32, (rnd x).toInt.natAbs < 2 ^ 62
theorem bi_leaf {p : Nat} {τ : Ty} {o2 o3 : Option Value} (rb : RndB) (B : BI g a ar0 cs0 D vs h t u) (E : En g R) (hq : h[p]? = some (tyc τ)) (hl : τ.2.1 ∈ sgl) (hb : t.length < 2 ^ 15) (K : ∀ h', BI g a ar0 cs0 D vs h' (t ++ (litS D τ.2.1 u).1) (litS D τ.2.1 u).2 → Q none h') : wp (d + 8) 39 40 [some (.ref 111), some (.ref p), o2, o3, some (.ref a)] [] h Q := by
  have hq' : h[p]? = some (.inr 3, [.int (nI τ.1), .int τ.2.1, .int (nI τ.2.2)]) := hq
  have b1 := E.b1 B
  simp only [k_39_40, k_39_40N, k_39_41, okV_iff hq', sp_letter hq, am_cat, am_kill, Value.category, List.map_cons, List.map_nil, List.sum_cons, List.sum_nil, Option.toList_some, Option.toList_none, List.cons_append, List.nil_append, List.length_cons, List.length_nil, List.getD_cons_succ, List.getD_cons_zero, List.set_cons_succ, List.set_cons_zero, Nat.reduceAdd, Nat.reduceLT, Nat.reduceLeDiff, Nat.zero_le, Nat.zero_add, Nat.add_zero]
  generalize τ.2.1 = c at hl K
  rw [k_39_44]
  have hl : c = 90 ∨ c = 66 ∨ c = 67 ∨ c = 83 ∨ c = 73 ∨ c = 74 ∨ c = 70 ∨ c = 68 ∨ c = 84 := by simpa [sgl] using hl
  rcases hl with rfl | rfl | rfl | rfl | rfl | rfl | rfl | rfl | rfl
  all_goals repeat (first | rw [if_pos rfl] | rw [if_neg (by decide)])
  · have e : litS D 90 u = ((if nx D u &&& 1 = 0 then sx 18 else sx 17), u + 1) := rfl
    rw [e] at K
    dsimp only at K
    simp only [k_39_160, k_39_160N, k_39_162, k_39_162N, k_39_163, k_39_166, okG_iff b1, fld_of b1, B.od, am_cat, am_kill, Value.category, List.map_cons, List.map_nil, List.sum_cons, List.sum_nil, Option.toList_some, Option.toList_none, List.cons_append, List.nil_append, List.length_cons, List.length_nil, List.getD_cons_succ, List.getD_cons_zero, List.set_cons_succ, List.set_cons_zero, Nat.reduceAdd, Nat.reduceLT, Nat.reduceLeDiff, Nat.zero_le, Nat.zero_add, Nat.add_zero]
    refine bi_next B (fun h1 B1 => ?_)
    simp only [k_39_169, k_39_170, k_39_171, am_cat, am_kill, Value.category, List.map_cons, List.map_nil, List.sum_cons, List.sum_nil, Option.toList_some, Option.toList_none, List.cons_append, List.nil_append, List.length_cons, List.length_nil, List.getD_cons_succ, List.getD_cons_zero, List.set_cons_succ, List.set_cons_zero, Nat.reduceAdd, Nat.reduceLT, Nat.reduceLeDiff, Nat.zero_le, Nat.zero_add, Nat.add_zero]
    by_cases c1 : nx D u &&& 1 = 0
    · rw [if_pos c1] at K ⊢
      simp only [k_39_179, k_39_181, B1.ov, am_cat, am_kill, Value.category, List.map_cons, List.map_nil, List.sum_cons, List.sum_nil, Option.toList_some, Option.toList_none, List.cons_append, List.nil_append, List.length_cons, List.length_nil, List.getD_cons_succ, List.getD_cons_zero, List.set_cons_succ, List.set_cons_zero, Nat.reduceAdd, Nat.reduceLT, Nat.reduceLeDiff, Nat.zero_le, Nat.zero_add, Nat.add_zero]
      refine bi_puts (i := 18) B1 E.1 (by decide) (by omega) (fun h2 B2 => ?_)
      simp only [k_39_184, k_39_350, am_cat, am_kill, Value.category, List.map_cons, List.map_nil, List.sum_cons, List.sum_nil, Option.toList_some, Option.toList_none, List.cons_append, List.nil_append, List.length_cons, List.length_nil, List.getD_cons_succ, List.getD_cons_zero, List.set_cons_succ, List.set_cons_zero, Nat.reduceAdd, Nat.reduceLT, Nat.reduceLeDiff, Nat.zero_le, Nat.zero_add, Nat.add_zero]
      exact K h2 B2
    · rw [if_neg c1] at K ⊢
      simp only [k_39_176, k_39_174, k_39_181, B1.ov, am_cat, am_kill, Value.category, List.map_cons, List.map_nil, List.sum_cons, List.sum_nil, Option.toList_some, Option.toList_none, List.cons_append, List.nil_append, List.length_cons, List.length_nil, List.getD_cons_succ, List.getD_cons_zero, List.set_cons_succ, List.set_cons_zero, Nat.reduceAdd, Nat.reduceLT, Nat.reduceLeDiff, Nat.zero_le, Nat.zero_add, Nat.add_zero]
      refine bi_puts (i := 17) B1 E.1 (by decide) (by omega) (fun h2 B2 => ?_)
      simp only [k_39_184, k_39_350, am_cat, am_kill, Value.category, List.map_cons, List.map_nil, List.sum_cons, List.sum_nil, Option.toList_some, Option.toList_none, List.cons_append, List.nil_append, List.length_cons, List.length_nil, List.getD_cons_succ, List.getD_cons_zero, List.set_cons_succ, List.set_cons_zero, Nat.reduceAdd, Nat.reduceLT, Nat.reduceLeDiff, Nat.zero_le, Nat.zero_add, Nat.add_zero]
      exact K h2 B2
  · have e : litS D 66 u = (sx 19 ++ num (nx D u).toInt8.toInt32.toInt, u + 1) := rfl
    rw [e] at K
    dsimp only at K
    have s1 := sxl 19
    simp only [k_39_187, k_39_187N, k_39_189, k_39_191, B.ov, am_cat, am_kill, Value.category, List.map_cons, List.map_nil, List.sum_cons, List.sum_nil, Option.toList_some, Option.toList_none, List.cons_append, List.nil_append, List.length_cons, List.length_nil, List.getD_cons_succ, List.getD_cons_zero, List.set_cons_succ, List.set_cons_zero, Nat.reduceAdd, Nat.reduceLT, Nat.reduceLeDiff, Nat.zero_le, Nat.zero_add, Nat.add_zero]
    refine bi_puts (i := 19) B E.1 (by decide) (by omega) (fun h1 B1 => ?_)
    have b2 := E.b1 B1
    simp only [k_39_194, k_39_194N, k_39_196, k_39_196N, k_39_197, k_39_200, okG_iff b2, fld_of b2, B1.od, am_cat, am_kill, Value.category, List.map_cons, List.map_nil, List.sum_cons, List.sum_nil, Option.toList_some, Option.toList_none, List.cons_append, List.nil_append, List.length_cons, List.length_nil, List.getD_cons_succ, List.getD_cons_zero, List.set_cons_succ, List.set_cons_zero, Nat.reduceAdd, Nat.reduceLT, Nat.reduceLeDiff, Nat.zero_le, Nat.zero_add, Nat.add_zero]
    refine bi_next B1 (fun h2 B2 => ?_)
    simp only [k_39_203, k_39_204, k_39_205, B2.ov, am_cat, am_kill, Value.category, List.map_cons, List.map_nil, List.sum_cons, List.sum_nil, Option.toList_some, Option.toList_none, List.cons_append, List.nil_append, List.length_cons, List.length_nil, List.getD_cons_succ, List.getD_cons_zero, List.set_cons_succ, List.set_cons_zero, Nat.reduceAdd, Nat.reduceLT, Nat.reduceLeDiff, Nat.zero_le, Nat.zero_add, Nat.add_zero]
    refine bi_num B2 (by rw [List.length_append]; omega) (fun h3 B3 => ?_)
    rw [Int32.toInt_toInt64, List.append_assoc] at B3
    simp only [k_39_208, k_39_350, am_cat, am_kill, Value.category, List.map_cons, List.map_nil, List.sum_cons, List.sum_nil, Option.toList_some, Option.toList_none, List.cons_append, List.nil_append, List.length_cons, List.length_nil, List.getD_cons_succ, List.getD_cons_zero, List.set_cons_succ, List.set_cons_zero, Nat.reduceAdd, Nat.reduceLT, Nat.reduceLeDiff, Nat.zero_le, Nat.zero_add, Nat.add_zero]
    exact K h3 B3
  · have e : litS D 67 u = ([39] ++ (chE (nx D u &&& 65535) 39 ++ [39]), u + 1) := rfl
    rw [e] at K
    dsimp only at K
    have s1 := chE_len (nx D u &&& 65535) 39
    simp only [k_39_235, k_39_235N, k_39_237, k_39_239, B.ov, am_cat, am_kill, Value.category, List.map_cons, List.map_nil, List.sum_cons, List.sum_nil, Option.toList_some, Option.toList_none, List.cons_append, List.nil_append, List.length_cons, List.length_nil, List.getD_cons_succ, List.getD_cons_zero, List.set_cons_succ, List.set_cons_zero, Nat.reduceAdd, Nat.reduceLT, Nat.reduceLeDiff, Nat.zero_le, Nat.zero_add, Nat.add_zero]
    refine bi_put B ⟨by decide, by decide⟩ (by omega) (fun h1 B1 => ?_)
    have b2 := E.b1 B1
    simp only [k_39_242, k_39_242N, k_39_243, k_39_246, okG_iff b2, fld_of b2, B1.od, am_cat, am_kill, Value.category, List.map_cons, List.map_nil, List.sum_cons, List.sum_nil, Option.toList_some, Option.toList_none, List.cons_append, List.nil_append, List.length_cons, List.length_nil, List.getD_cons_succ, List.getD_cons_zero, List.set_cons_succ, List.set_cons_zero, Nat.reduceAdd, Nat.reduceLT, Nat.reduceLeDiff, Nat.zero_le, Nat.zero_add, Nat.add_zero]
    refine bi_next B1 (fun h2 B2 => ?_)
    simp only [k_39_249, k_39_251, k_39_251N, k_39_253, am_cat, am_kill, Value.category, List.map_cons, List.map_nil, List.sum_cons, List.sum_nil, Option.toList_some, Option.toList_none, List.cons_append, List.nil_append, List.length_cons, List.length_nil, List.getD_cons_succ, List.getD_cons_zero, List.set_cons_succ, List.set_cons_zero, Nat.reduceAdd, Nat.reduceLT, Nat.reduceLeDiff, Nat.zero_le, Nat.zero_add, Nat.add_zero]
    refine bi_char B2 E.1 (Or.inl rfl) (by simp only [List.length_append, List.length_cons, List.length_nil]; omega) (fun h3 B3 => ?_)
    simp only [k_39_256, k_39_256N, k_39_258, k_39_260, B3.ov, am_cat, am_kill, Value.category, List.map_cons, List.map_nil, List.sum_cons, List.sum_nil, Option.toList_some, Option.toList_none, List.cons_append, List.nil_append, List.length_cons, List.length_nil, List.getD_cons_succ, List.getD_cons_zero, List.set_cons_succ, List.set_cons_zero, Nat.reduceAdd, Nat.reduceLT, Nat.reduceLeDiff, Nat.zero_le, Nat.zero_add, Nat.add_zero]
    refine bi_put B3 ⟨by decide, by decide⟩ (by simp only [List.length_append, List.length_cons, List.length_nil]; omega) (fun h4 B4 => ?_)
    simp only [k_39_263, k_39_350, am_cat, am_kill, Value.category, List.map_cons, List.map_nil, List.sum_cons, List.sum_nil, Option.toList_some, Option.toList_none, List.cons_append, List.nil_append, List.length_cons, List.length_nil, List.getD_cons_succ, List.getD_cons_zero, List.set_cons_succ, List.set_cons_zero, Nat.reduceAdd, Nat.reduceLT, Nat.reduceLeDiff, Nat.zero_le, Nat.zero_add, Nat.add_zero]
    refine K h4 ?_
    simp only [List.append_assoc] at B4
    exact B4
  · have e : litS D 83 u = (sx 20 ++ num (nx D u).toInt16.toInt32.toInt, u + 1) := rfl
    rw [e] at K
    dsimp only at K
    have s1 := sxl 20
    simp only [k_39_211, k_39_211N, k_39_213, k_39_215, B.ov, am_cat, am_kill, Value.category, List.map_cons, List.map_nil, List.sum_cons, List.sum_nil, Option.toList_some, Option.toList_none, List.cons_append, List.nil_append, List.length_cons, List.length_nil, List.getD_cons_succ, List.getD_cons_zero, List.set_cons_succ, List.set_cons_zero, Nat.reduceAdd, Nat.reduceLT, Nat.reduceLeDiff, Nat.zero_le, Nat.zero_add, Nat.add_zero]
    refine bi_puts (i := 20) B E.1 (by decide) (by omega) (fun h1 B1 => ?_)
    have b2 := E.b1 B1
    simp only [k_39_218, k_39_218N, k_39_220, k_39_220N, k_39_221, k_39_224, okG_iff b2, fld_of b2, B1.od, am_cat, am_kill, Value.category, List.map_cons, List.map_nil, List.sum_cons, List.sum_nil, Option.toList_some, Option.toList_none, List.cons_append, List.nil_append, List.length_cons, List.length_nil, List.getD_cons_succ, List.getD_cons_zero, List.set_cons_succ, List.set_cons_zero, Nat.reduceAdd, Nat.reduceLT, Nat.reduceLeDiff, Nat.zero_le, Nat.zero_add, Nat.add_zero]
    refine bi_next B1 (fun h2 B2 => ?_)
    simp only [k_39_227, k_39_228, k_39_229, B2.ov, am_cat, am_kill, Value.category, List.map_cons, List.map_nil, List.sum_cons, List.sum_nil, Option.toList_some, Option.toList_none, List.cons_append, List.nil_append, List.length_cons, List.length_nil, List.getD_cons_succ, List.getD_cons_zero, List.set_cons_succ, List.set_cons_zero, Nat.reduceAdd, Nat.reduceLT, Nat.reduceLeDiff, Nat.zero_le, Nat.zero_add, Nat.add_zero]
    refine bi_num B2 (by rw [List.length_append]; omega) (fun h3 B3 => ?_)
    rw [Int32.toInt_toInt64, List.append_assoc] at B3
    simp only [k_39_232, k_39_350, am_cat, am_kill, Value.category, List.map_cons, List.map_nil, List.sum_cons, List.sum_nil, Option.toList_some, Option.toList_none, List.cons_append, List.nil_append, List.length_cons, List.length_nil, List.getD_cons_succ, List.getD_cons_zero, List.set_cons_succ, List.set_cons_zero, Nat.reduceAdd, Nat.reduceLT, Nat.reduceLeDiff, Nat.zero_le, Nat.zero_add, Nat.add_zero]
    exact K h3 B3
  · have e : litS D 73 u = (intL (nx D u), u + 1) := rfl
    rw [e] at K
    dsimp only at K
    simp only [k_39_266, k_39_266N, k_39_267, k_39_270, okG_iff b1, fld_of b1, B.od, am_cat, am_kill, Value.category, List.map_cons, List.map_nil, List.sum_cons, List.sum_nil, Option.toList_some, Option.toList_none, List.cons_append, List.nil_append, List.length_cons, List.length_nil, List.getD_cons_succ, List.getD_cons_zero, List.set_cons_succ, List.set_cons_zero, Nat.reduceAdd, Nat.reduceLT, Nat.reduceLeDiff, Nat.zero_le, Nat.zero_add, Nat.add_zero]
    refine bi_next B (fun h1 B1 => ?_)
    simp only [k_39_273, k_39_273N, k_39_275, am_cat, am_kill, Value.category, List.map_cons, List.map_nil, List.sum_cons, List.sum_nil, Option.toList_some, Option.toList_none, List.cons_append, List.nil_append, List.length_cons, List.length_nil, List.getD_cons_succ, List.getD_cons_zero, List.set_cons_succ, List.set_cons_zero, Nat.reduceAdd, Nat.reduceLT, Nat.reduceLeDiff, Nat.zero_le, Nat.zero_add, Nat.add_zero]
    refine bi_int B1 E.1 (by omega) (fun h2 B2 => ?_)
    simp only [k_39_278, k_39_350, am_cat, am_kill, Value.category, List.map_cons, List.map_nil, List.sum_cons, List.sum_nil, Option.toList_some, Option.toList_none, List.cons_append, List.nil_append, List.length_cons, List.length_nil, List.getD_cons_succ, List.getD_cons_zero, List.set_cons_succ, List.set_cons_zero, Nat.reduceAdd, Nat.reduceLT, Nat.reduceLeDiff, Nat.zero_le, Nat.zero_add, Nat.add_zero]
    exact K h2 B2
  · have e : litS D 74 u = (lngL (nx D u) (nx D (u + 1)), u + 2) := rfl
    rw [e] at K
    dsimp only at K
    simp only [k_39_281, k_39_281N, k_39_282, k_39_282N, k_39_284, okV_iff b1, am_cat, am_kill, Value.category, List.map_cons, List.map_nil, List.sum_cons, List.sum_nil, Option.toList_some, Option.toList_none, List.cons_append, List.nil_append, List.length_cons, List.length_nil, List.getD_cons_succ, List.getD_cons_zero, List.set_cons_succ, List.set_cons_zero, Nat.reduceAdd, Nat.reduceLT, Nat.reduceLeDiff, Nat.zero_le, Nat.zero_add, Nat.add_zero]
    refine bi_long B E (by omega) (fun h2 B2 => ?_)
    simp only [k_39_287, k_39_350, am_cat, am_kill, Value.category, List.map_cons, List.map_nil, List.sum_cons, List.sum_nil, Option.toList_some, Option.toList_none, List.cons_append, List.nil_append, List.length_cons, List.length_nil, List.getD_cons_succ, List.getD_cons_zero, List.set_cons_succ, List.set_cons_zero, Nat.reduceAdd, Nat.reduceLT, Nat.reduceLeDiff, Nat.zero_le, Nat.zero_add, Nat.add_zero]
    exact K h2 B2
  · have e : litS D 70 u = (eigL (rnd (nx D u)).toInt ++ [102], u + 1) := rfl
    rw [e] at K
    dsimp only at K
    have s1 := eigL_len (rnd (nx D u)).toInt
    have e2 : FP.f2l (FP.i2f (nx D u)) = rnd (nx D u) := rfl
    simp only [k_39_290, k_39_290N, k_39_291, k_39_294, okG_iff b1, fld_of b1, B.od, am_cat, am_kill, Value.category, List.map_cons, List.map_nil, List.sum_cons, List.sum_nil, Option.toList_some, Option.toList_none, List.cons_append, List.nil_append, List.length_cons, List.length_nil, List.getD_cons_succ, List.getD_cons_zero, List.set_cons_succ, List.set_cons_zero, Nat.reduceAdd, Nat.reduceLT, Nat.reduceLeDiff, Nat.zero_le, Nat.zero_add, Nat.add_zero]
    refine bi_next B (fun h1 B1 => ?_)
    simp only [k_39_297, k_39_298, k_39_299, k_39_299N, k_39_301, e2, am_cat, am_kill, Value.category, List.map_cons, List.map_nil, List.sum_cons, List.sum_nil, Option.toList_some, Option.toList_none, List.cons_append, List.nil_append, List.length_cons, List.length_nil, List.getD_cons_succ, List.getD_cons_zero, List.set_cons_succ, List.set_cons_zero, Nat.reduceAdd, Nat.reduceLT, Nat.reduceLeDiff, Nat.zero_le, Nat.zero_add, Nat.add_zero]
    refine bi_eig (rb _) B1 (by omega) (fun h2 B2 => ?_)
    simp only [k_39_304, k_39_304N, k_39_306, k_39_308, B2.ov, am_cat, am_kill, Value.category, List.map_cons, List.map_nil, List.sum_cons, List.sum_nil, Option.toList_some, Option.toList_none, List.cons_append, List.nil_append, List.length_cons, List.length_nil, List.getD_cons_succ, List.getD_cons_zero, List.set_cons_succ, List.set_cons_zero, Nat.reduceAdd, Nat.reduceLT, Nat.reduceLeDiff, Nat.zero_le, Nat.zero_add, Nat.add_zero]
    refine bi_put B2 ⟨by decide, by decide⟩ (by rw [List.length_append]; omega) (fun h3 B3 => ?_)
    simp only [k_39_311, k_39_350, am_cat, am_kill, Value.category, List.map_cons, List.map_nil, List.sum_cons, List.sum_nil, Option.toList_some, Option.toList_none, List.cons_append, List.nil_append, List.length_cons, List.length_nil, List.getD_cons_succ, List.getD_cons_zero, List.set_cons_succ, List.set_cons_zero, Nat.reduceAdd, Nat.reduceLT, Nat.reduceLeDiff, Nat.zero_le, Nat.zero_add, Nat.add_zero]
    exact K h3 (by rw [List.append_assoc] at B3; exact B3)
  · have e : litS D 68 u = (eigL (nx D u).toInt, u + 1) := rfl
    rw [e] at K
    dsimp only at K
    simp only [k_39_314, k_39_314N, k_39_315, k_39_318, okG_iff b1, fld_of b1, B.od, am_cat, am_kill, Value.category, List.map_cons, List.map_nil, List.sum_cons, List.sum_nil, Option.toList_some, Option.toList_none, List.cons_append, List.nil_append, List.length_cons, List.length_nil, List.getD_cons_succ, List.getD_cons_zero, List.set_cons_succ, List.set_cons_zero, Nat.reduceAdd, Nat.reduceLT, Nat.reduceLeDiff, Nat.zero_le, Nat.zero_add, Nat.add_zero]
    refine bi_next B (fun h1 B1 => ?_)
    simp only [k_39_321, k_39_322, k_39_322N, k_39_324, am_cat, am_kill, Value.category, List.map_cons, List.map_nil, List.sum_cons, List.sum_nil, Option.toList_some, Option.toList_none, List.cons_append, List.nil_append, List.length_cons, List.length_nil, List.getD_cons_succ, List.getD_cons_zero, List.set_cons_succ, List.set_cons_zero, Nat.reduceAdd, Nat.reduceLT, Nat.reduceLeDiff, Nat.zero_le, Nat.zero_add, Nat.add_zero]
    have hx : (nx D u).toInt64.toInt.natAbs < 2 ^ 62 := by
      rw [Int32.toInt_toInt64]
      have := (nx D u).le_toInt
      have := (nx D u).toInt_lt
      omega
    refine bi_eig hx B1 (by omega) (fun h2 B2 => ?_)
    rw [Int32.toInt_toInt64] at B2
    simp only [k_39_327, k_39_350, am_cat, am_kill, Value.category, List.map_cons, List.map_nil, List.sum_cons, List.sum_nil, Option.toList_some, Option.toList_none, List.cons_append, List.nil_append, List.length_cons, List.length_nil, List.getD_cons_succ, List.getD_cons_zero, List.set_cons_succ, List.set_cons_zero, Nat.reduceAdd, Nat.reduceLT, Nat.reduceLeDiff, Nat.zero_le, Nat.zero_add, Nat.add_zero]
    exact K h2 B2
  · have e : litS D 84 u = (if nx D u < 0 then (sx 4, u + 1) else ([34] ++ (txE D ((nx D u).toNatClampNeg % 5) (u + 1) ++ [34]), u + 1 + (nx D u).toNatClampNeg % 5)) := rfl
    rw [e] at K
    simp only [k_39_330, k_39_330N, k_39_331, k_39_331N, k_39_333, okV_iff b1, am_cat, am_kill, Value.category, List.map_cons, List.map_nil, List.sum_cons, List.sum_nil, Option.toList_some, Option.toList_none, List.cons_append, List.nil_append, List.length_cons, List.length_nil, List.getD_cons_succ, List.getD_cons_zero, List.set_cons_succ, List.set_cons_zero, Nat.reduceAdd, Nat.reduceLT, Nat.reduceLeDiff, Nat.zero_le, Nat.zero_add, Nat.add_zero]
    refine bi_text B E (by omega) (fun h2 B2 => ?_)
    simp only [k_39_336, k_39_350, am_cat, am_kill, Value.category, List.map_cons, List.map_nil, List.sum_cons, List.sum_nil, Option.toList_some, Option.toList_none, List.cons_append, List.nil_append, List.length_cons, List.length_nil, List.getD_cons_succ, List.getD_cons_zero, List.set_cons_succ, List.set_cons_zero, Nat.reduceAdd, Nat.reduceLT, Nat.reduceLeDiff, Nat.zero_le, Nat.zero_add, Nat.add_zero]
    exact K h2 B2
end LEAF
