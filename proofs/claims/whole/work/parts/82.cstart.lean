/-! THE PROGRAM'S CONSTRUCTOR -/
def wid (x : Int32) : Nat := if x < 40 then 40 else if 120 < x then 120 else x.toNatClampNeg
theorem wid_mid {x : Int32} (h1 : ¬ x < 40) (h2 : ¬ 120 < x) : ∃ n, 40 ≤ n ∧ n ≤ 120 ∧ x = nI n := by
  have h0 : ¬ x < 0 := fun z => h1 (Int32.lt_trans z (by decide))
  obtain ⟨n, hn, rfl⟩ := nI_of h0
  have e1 : (nI n < (40 : Int32)) ↔ n < 40 := nI_ltI (b := 40) hn (by omega)
  have e2 : ((120 : Int32) < nI n) ↔ 120 < n := nI_ltI (a := 120) (by omega) hn
  rw [e1] at h1
  rw [e2] at h2
  exact ⟨n, by omega, by omega, rfl⟩
theorem wid_b (x : Int32) : 40 ≤ wid x ∧ wid x ≤ 120 := by
  unfold wid
  split
  · exact ⟨by decide, by decide⟩
  · rename_i h1
    split
    · exact ⟨by decide, by decide⟩
    · rename_i h2
      obtain ⟨n, n1, n2, rfl⟩ := wid_mid h1 h2
      rw [nI_clamp (by omega)]
      exact ⟨n1, n2⟩
theorem wid_m (x : Int32) : nI (wid x) = if x < 40 then 40 else if 120 < x then 120 else x := by
  unfold wid
  by_cases h1 : x < 40
  · rw [if_pos h1, if_pos h1]
    rfl
  · rw [if_neg h1, if_neg h1]
    by_cases h2 : 120 < x
    · rw [if_pos h2, if_pos h2]
      rfl
    · rw [if_neg h2, if_neg h2]
      obtain ⟨n, n1, n2, rfl⟩ := wid_mid h1 h2
      rw [nI_clamp (by omega)]
theorem wid_c (x : Int32) : (if 40 < (if x < 120 then x else 120) then (if x < 120 then x else 120) else 40) = nI (wid x) := by
  rw [wid_m]
  by_cases h1 : x < 40
  · rw [if_pos h1, if_pos (Int32.lt_trans h1 (by decide)), if_neg (Int32.lt_asymm h1)]
  · rw [if_neg h1]
    by_cases h2 : 120 < x
    · rw [if_pos h2, if_neg (Int32.lt_asymm h2), if_pos (by decide)]
    · rw [if_neg h2]
      obtain ⟨n, n1, n2, rfl⟩ := wid_mid h1 h2
      have e1 : ((40 : Int32) < nI n) ↔ 40 < n := nI_ltI (a := 40) (by omega) (by omega)
      have e2 : (nI n < (120 : Int32)) ↔ n < 120 := nI_ltI (b := 120) (by omega) (by omega)
      by_cases h3 : n < 120
      · rw [if_pos (e2.mpr h3)]
        by_cases h4 : 40 < n
        · rw [if_pos (e1.mpr h4)]
        · rw [if_neg (fun z => h4 (e1.mp z)), show n = 40 by omega]
          rfl
      · rw [if_neg (fun z => h3 (e2.mp z)), show n = 120 by omega]
        decide
section NW
variable {g Y : AH} {d : Nat} {Q : Option Value → AH → Prop}
theorem f5 (hg : g.length = 105) {a : AC} : (g ++ (a :: Y))[105]? = some a := by
  have := get_mid (h := g) (r := Y) (a := a)
  rw [hg] at this
  exact this
theorem s5 (hg : g.length = 105) {a c : AC} : (g ++ (a :: Y)).set 105 c = g ++ (c :: Y) := by
  have := set_mid (h := g) (r := Y) (a := a) (c := c)
  rw [hg] at this
  exact this
theorem l5 (hg : g.length = 105) {a : AC} : (g ++ (a :: Y)).length = 106 + Y.length := by
  rw [List.length_append, List.length_cons, hg]
  omega
end NW
theorem app5 {g Y Z : AH} {a : AC} : (g ++ (a :: Y)) ++ Z = g ++ (a :: (Y ++ Z)) := by rw [List.append_assoc, List.cons_append]
def Yf (x : Int32) : AH := ((((((((zc 107 40 ++ zr 109) ++ [((.inr 3, [.int 0, .int 86, .int 0]) : AC)]) ++ zb 111) ++ zc 124 300) ++ zc 126 300) ++ zc 128 300) ++ zs 130) ++ zx 131 (nI (wid x)))
def Ff : AC := ((.inr 0, [.ref 106, .ref 108, .ref 110, .ref 111, .ref 123, .ref 125, .ref 127, .ref 129, .ref 131, .int (-1)]) : AC)
theorem cs_new {g : AH} {d : Nat} {x : Int32} {Q : Option Value → AH → Prop} (hg : g.length = 105) (K : Q none (g ++ (Ff :: Yf x))) : wp (d + 3) 1 0 [some (.ref 105), some (.int x)] [] (g ++ [((.inr 0, [.null, .null, .null, .null, .null, .null, .null, .null, .null, .int 0]) : AC)]) Q := by
  have hN : sN ≤ 105 := by rw [sN5]; decide
  have q0 : (g ++ (((.inr 0, [.null, .null, .null, .null, .null, .null, .null, .null, .null, .int 0]) : AC) :: [])).length = 106 := by rw [l5 hg]; rfl
  simp only [k_1_0, k_1_0N, k_1_4, k_1_4N, k_1_8, k_1_8i, k_1_9, k_1_1, k_1_5, k_1_11, am_cat, am_kill, Value.category, List.map_cons, List.map_nil, List.sum_cons, List.sum_nil, Option.toList_some, Option.toList_none, List.cons_append, List.nil_append, List.length_cons, List.length_nil, List.getD_cons_succ, List.getD_cons_zero, List.set_cons_succ, List.set_cons_zero, Nat.reduceAdd, Nat.reduceLT, Nat.reduceLeDiff, Nat.zero_le, Nat.zero_add, Nat.add_zero]
  rw [nw_c (n := 40) (by rw [q0, sN5]; decide) (by decide) (show (40 : Int32) = nI 40 from rfl)]
  rw [q0, app5]
  rw [List.nil_append]
  have r0 := f5 (Y := zc 107 40) hg (a := ((.inr 0, [.null, .null, .null, .null, .null, .null, .null, .null, .null, .int 0]) : AC))
  simp only [k_1_14, okG_iff r0, hput_of r0, s5 hg, hN, am_cat, am_kill, Value.category, List.map_cons, List.map_nil, List.sum_cons, List.sum_nil, Option.toList_some, Option.toList_none, List.cons_append, List.nil_append, List.length_cons, List.length_nil, List.getD_cons_succ, List.getD_cons_zero, List.set_cons_succ, List.set_cons_zero, Nat.reduceAdd, Nat.reduceLT, Nat.reduceLeDiff, Nat.zero_le, Nat.zero_add, Nat.add_zero]
  have q1 : (g ++ (((.inr 0, [.ref 106, .null, .null, .null, .null, .null, .null, .null, .null, .int 0]) : AC) :: zc 107 40)).length = 108 := by rw [l5 hg]; rfl
  simp only [k_1_17, k_1_17N, k_1_21, k_1_21i, k_1_18, k_1_22, am_cat, am_kill, Value.category, List.map_cons, List.map_nil, List.sum_cons, List.sum_nil, Option.toList_some, Option.toList_none, List.cons_append, List.nil_append, List.length_cons, List.length_nil, List.getD_cons_succ, List.getD_cons_zero, List.set_cons_succ, List.set_cons_zero, Nat.reduceAdd, Nat.reduceLT, Nat.reduceLeDiff, Nat.zero_le, Nat.zero_add, Nat.add_zero]
  rw [nw_r (by rw [q1, sN5]; decide)]
  rw [q1, app5]
  have r1 := f5 (Y := (zc 107 40 ++ zr 109)) hg (a := ((.inr 0, [.ref 106, .null, .null, .null, .null, .null, .null, .null, .null, .int 0]) : AC))
  simp only [k_1_25, okG_iff r1, hput_of r1, s5 hg, hN, am_cat, am_kill, Value.category, List.map_cons, List.map_nil, List.sum_cons, List.sum_nil, Option.toList_some, Option.toList_none, List.cons_append, List.nil_append, List.length_cons, List.length_nil, List.getD_cons_succ, List.getD_cons_zero, List.set_cons_succ, List.set_cons_zero, Nat.reduceAdd, Nat.reduceLT, Nat.reduceLeDiff, Nat.zero_le, Nat.zero_add, Nat.add_zero]
  have q2 : (g ++ (((.inr 0, [.ref 106, .ref 108, .null, .null, .null, .null, .null, .null, .null, .int 0]) : AC) :: (zc 107 40 ++ zr 109))).length = 110 := by rw [l5 hg]; rfl
  simp only [k_1_28, k_1_28N, k_1_32, k_1_32i, k_1_33, k_1_34, k_1_36, k_1_29, k_1_37, am_cat, am_kill, Value.category, List.map_cons, List.map_nil, List.sum_cons, List.sum_nil, Option.toList_some, Option.toList_none, List.cons_append, List.nil_append, List.length_cons, List.length_nil, List.getD_cons_succ, List.getD_cons_zero, List.set_cons_succ, List.set_cons_zero, Nat.reduceAdd, Nat.reduceLT, Nat.reduceLeDiff, Nat.zero_le, Nat.zero_add, Nat.add_zero]
  rw [nw_t (by rw [q2, sN5]; decide)]
  rw [q2, app5]
  have r2 := f5 (Y := ((zc 107 40 ++ zr 109) ++ [((.inr 3, [.int 0, .int 86, .int 0]) : AC)])) hg (a := ((.inr 0, [.ref 106, .ref 108, .null, .null, .null, .null, .null, .null, .null, .int 0]) : AC))
  simp only [k_1_40, okG_iff r2, hput_of r2, s5 hg, hN, am_cat, am_kill, Value.category, List.map_cons, List.map_nil, List.sum_cons, List.sum_nil, Option.toList_some, Option.toList_none, List.cons_append, List.nil_append, List.length_cons, List.length_nil, List.getD_cons_succ, List.getD_cons_zero, List.set_cons_succ, List.set_cons_zero, Nat.reduceAdd, Nat.reduceLT, Nat.reduceLeDiff, Nat.zero_le, Nat.zero_add, Nat.add_zero]
  have q3 : (g ++ (((.inr 0, [.ref 106, .ref 108, .ref 110, .null, .null, .null, .null, .null, .null, .int 0]) : AC) :: ((zc 107 40 ++ zr 109) ++ [((.inr 3, [.int 0, .int 86, .int 0]) : AC)]))).length = 111 := by rw [l5 hg]; rfl
  simp only [k_1_43, k_1_43N, k_1_47, k_1_47i, k_1_44, k_1_48, am_cat, am_kill, Value.category, List.map_cons, List.map_nil, List.sum_cons, List.sum_nil, Option.toList_some, Option.toList_none, List.cons_append, List.nil_append, List.length_cons, List.length_nil, List.getD_cons_succ, List.getD_cons_zero, List.set_cons_succ, List.set_cons_zero, Nat.reduceAdd, Nat.reduceLT, Nat.reduceLeDiff, Nat.zero_le, Nat.zero_add, Nat.add_zero]
  refine nw_b (h := (g ++ (((.inr 0, [.ref 106, .ref 108, .ref 110, .null, .null, .null, .null, .null, .null, .int 0]) : AC) :: ((zc 107 40 ++ zr 109) ++ [((.inr 3, [.int 0, .int 86, .int 0]) : AC)])))) (by rw [q3, sN5]; decide) ?_
  show wp (d + 3) 1 51 [some (.ref 105), some (.int x)] [.ref (g ++ (((.inr 0, [.ref 106, .ref 108, .ref 110, .null, .null, .null, .null, .null, .null, .int 0]) : AC) :: ((zc 107 40 ++ zr 109) ++ [((.inr 3, [.int 0, .int 86, .int 0]) : AC)]))).length, .ref 105] _ _
  rw [q3, app5]
  have r3 := f5 (Y := (((zc 107 40 ++ zr 109) ++ [((.inr 3, [.int 0, .int 86, .int 0]) : AC)]) ++ zb 111)) hg (a := ((.inr 0, [.ref 106, .ref 108, .ref 110, .null, .null, .null, .null, .null, .null, .int 0]) : AC))
  simp only [k_1_51, okG_iff r3, hput_of r3, s5 hg, hN, am_cat, am_kill, Value.category, List.map_cons, List.map_nil, List.sum_cons, List.sum_nil, Option.toList_some, Option.toList_none, List.cons_append, List.nil_append, List.length_cons, List.length_nil, List.getD_cons_succ, List.getD_cons_zero, List.set_cons_succ, List.set_cons_zero, Nat.reduceAdd, Nat.reduceLT, Nat.reduceLeDiff, Nat.zero_le, Nat.zero_add, Nat.add_zero]
  have q4 : (g ++ (((.inr 0, [.ref 106, .ref 108, .ref 110, .ref 111, .null, .null, .null, .null, .null, .int 0]) : AC) :: (((zc 107 40 ++ zr 109) ++ [((.inr 3, [.int 0, .int 86, .int 0]) : AC)]) ++ zb 111))).length = 123 := by rw [l5 hg]; rfl
  simp only [k_1_54, k_1_54N, k_1_58, k_1_58i, k_1_59, k_1_55, k_1_62, am_cat, am_kill, Value.category, List.map_cons, List.map_nil, List.sum_cons, List.sum_nil, Option.toList_some, Option.toList_none, List.cons_append, List.nil_append, List.length_cons, List.length_nil, List.getD_cons_succ, List.getD_cons_zero, List.set_cons_succ, List.set_cons_zero, Nat.reduceAdd, Nat.reduceLT, Nat.reduceLeDiff, Nat.zero_le, Nat.zero_add, Nat.add_zero]
  rw [nw_c (n := 300) (by rw [q4, sN5]; decide) (by decide) (show (300 : Int32) = nI 300 from rfl)]
  rw [q4, app5]
  have r4 := f5 (Y := ((((zc 107 40 ++ zr 109) ++ [((.inr 3, [.int 0, .int 86, .int 0]) : AC)]) ++ zb 111) ++ zc 124 300)) hg (a := ((.inr 0, [.ref 106, .ref 108, .ref 110, .ref 111, .null, .null, .null, .null, .null, .int 0]) : AC))
  simp only [k_1_65, okG_iff r4, hput_of r4, s5 hg, hN, am_cat, am_kill, Value.category, List.map_cons, List.map_nil, List.sum_cons, List.sum_nil, Option.toList_some, Option.toList_none, List.cons_append, List.nil_append, List.length_cons, List.length_nil, List.getD_cons_succ, List.getD_cons_zero, List.set_cons_succ, List.set_cons_zero, Nat.reduceAdd, Nat.reduceLT, Nat.reduceLeDiff, Nat.zero_le, Nat.zero_add, Nat.add_zero]
  have q5 : (g ++ (((.inr 0, [.ref 106, .ref 108, .ref 110, .ref 111, .ref 123, .null, .null, .null, .null, .int 0]) : AC) :: ((((zc 107 40 ++ zr 109) ++ [((.inr 3, [.int 0, .int 86, .int 0]) : AC)]) ++ zb 111) ++ zc 124 300))).length = 125 := by rw [l5 hg]; rfl
  simp only [k_1_68, k_1_68N, k_1_72, k_1_72i, k_1_73, k_1_69, k_1_76, am_cat, am_kill, Value.category, List.map_cons, List.map_nil, List.sum_cons, List.sum_nil, Option.toList_some, Option.toList_none, List.cons_append, List.nil_append, List.length_cons, List.length_nil, List.getD_cons_succ, List.getD_cons_zero, List.set_cons_succ, List.set_cons_zero, Nat.reduceAdd, Nat.reduceLT, Nat.reduceLeDiff, Nat.zero_le, Nat.zero_add, Nat.add_zero]
  rw [nw_c (n := 300) (by rw [q5, sN5]; decide) (by decide) (show (300 : Int32) = nI 300 from rfl)]
  rw [q5, app5]
  have r5 := f5 (Y := (((((zc 107 40 ++ zr 109) ++ [((.inr 3, [.int 0, .int 86, .int 0]) : AC)]) ++ zb 111) ++ zc 124 300) ++ zc 126 300)) hg (a := ((.inr 0, [.ref 106, .ref 108, .ref 110, .ref 111, .ref 123, .null, .null, .null, .null, .int 0]) : AC))
  simp only [k_1_79, okG_iff r5, hput_of r5, s5 hg, hN, am_cat, am_kill, Value.category, List.map_cons, List.map_nil, List.sum_cons, List.sum_nil, Option.toList_some, Option.toList_none, List.cons_append, List.nil_append, List.length_cons, List.length_nil, List.getD_cons_succ, List.getD_cons_zero, List.set_cons_succ, List.set_cons_zero, Nat.reduceAdd, Nat.reduceLT, Nat.reduceLeDiff, Nat.zero_le, Nat.zero_add, Nat.add_zero]
  have q6 : (g ++ (((.inr 0, [.ref 106, .ref 108, .ref 110, .ref 111, .ref 123, .ref 125, .null, .null, .null, .int 0]) : AC) :: (((((zc 107 40 ++ zr 109) ++ [((.inr 3, [.int 0, .int 86, .int 0]) : AC)]) ++ zb 111) ++ zc 124 300) ++ zc 126 300))).length = 127 := by rw [l5 hg]; rfl
  simp only [k_1_82, k_1_82N, k_1_86, k_1_86i, k_1_87, k_1_83, k_1_90, am_cat, am_kill, Value.category, List.map_cons, List.map_nil, List.sum_cons, List.sum_nil, Option.toList_some, Option.toList_none, List.cons_append, List.nil_append, List.length_cons, List.length_nil, List.getD_cons_succ, List.getD_cons_zero, List.set_cons_succ, List.set_cons_zero, Nat.reduceAdd, Nat.reduceLT, Nat.reduceLeDiff, Nat.zero_le, Nat.zero_add, Nat.add_zero]
  rw [nw_c (n := 300) (by rw [q6, sN5]; decide) (by decide) (show (300 : Int32) = nI 300 from rfl)]
  rw [q6, app5]
  have r6 := f5 (Y := ((((((zc 107 40 ++ zr 109) ++ [((.inr 3, [.int 0, .int 86, .int 0]) : AC)]) ++ zb 111) ++ zc 124 300) ++ zc 126 300) ++ zc 128 300)) hg (a := ((.inr 0, [.ref 106, .ref 108, .ref 110, .ref 111, .ref 123, .ref 125, .null, .null, .null, .int 0]) : AC))
  simp only [k_1_93, okG_iff r6, hput_of r6, s5 hg, hN, am_cat, am_kill, Value.category, List.map_cons, List.map_nil, List.sum_cons, List.sum_nil, Option.toList_some, Option.toList_none, List.cons_append, List.nil_append, List.length_cons, List.length_nil, List.getD_cons_succ, List.getD_cons_zero, List.set_cons_succ, List.set_cons_zero, Nat.reduceAdd, Nat.reduceLT, Nat.reduceLeDiff, Nat.zero_le, Nat.zero_add, Nat.add_zero]
  have q7 : (g ++ (((.inr 0, [.ref 106, .ref 108, .ref 110, .ref 111, .ref 123, .ref 125, .ref 127, .null, .null, .int 0]) : AC) :: ((((((zc 107 40 ++ zr 109) ++ [((.inr 3, [.int 0, .int 86, .int 0]) : AC)]) ++ zb 111) ++ zc 124 300) ++ zc 126 300) ++ zc 128 300))).length = 129 := by rw [l5 hg]; rfl
  simp only [k_1_96, k_1_96N, k_1_100, k_1_100i, k_1_97, k_1_101, am_cat, am_kill, Value.category, List.map_cons, List.map_nil, List.sum_cons, List.sum_nil, Option.toList_some, Option.toList_none, List.cons_append, List.nil_append, List.length_cons, List.length_nil, List.getD_cons_succ, List.getD_cons_zero, List.set_cons_succ, List.set_cons_zero, Nat.reduceAdd, Nat.reduceLT, Nat.reduceLeDiff, Nat.zero_le, Nat.zero_add, Nat.add_zero]
  rw [nw_s (by rw [q7, sN5]; decide)]
  rw [q7, app5]
  have r7 := f5 (Y := (((((((zc 107 40 ++ zr 109) ++ [((.inr 3, [.int 0, .int 86, .int 0]) : AC)]) ++ zb 111) ++ zc 124 300) ++ zc 126 300) ++ zc 128 300) ++ zs 130)) hg (a := ((.inr 0, [.ref 106, .ref 108, .ref 110, .ref 111, .ref 123, .ref 125, .ref 127, .null, .null, .int 0]) : AC))
  simp only [k_1_104, okG_iff r7, hput_of r7, s5 hg, hN, am_cat, am_kill, Value.category, List.map_cons, List.map_nil, List.sum_cons, List.sum_nil, Option.toList_some, Option.toList_none, List.cons_append, List.nil_append, List.length_cons, List.length_nil, List.getD_cons_succ, List.getD_cons_zero, List.set_cons_succ, List.set_cons_zero, Nat.reduceAdd, Nat.reduceLT, Nat.reduceLeDiff, Nat.zero_le, Nat.zero_add, Nat.add_zero]
  have p8 := f5 (Y := (((((((zc 107 40 ++ zr 109) ++ [((.inr 3, [.int 0, .int 86, .int 0]) : AC)]) ++ zb 111) ++ zc 124 300) ++ zc 126 300) ++ zc 128 300) ++ zs 130)) hg (a := ((.inr 0, [.ref 106, .ref 108, .ref 110, .ref 111, .ref 123, .ref 125, .ref 127, .ref 129, .null, .int 0]) : AC))
  simp only [k_1_107, k_1_107N, k_1_108, k_1_109, okG_iff p8, hput_of p8, s5 hg, hN, am_cat, am_kill, Value.category, List.map_cons, List.map_nil, List.sum_cons, List.sum_nil, Option.toList_some, Option.toList_none, List.cons_append, List.nil_append, List.length_cons, List.length_nil, List.getD_cons_succ, List.getD_cons_zero, List.set_cons_succ, List.set_cons_zero, Nat.reduceAdd, Nat.reduceLT, Nat.reduceLeDiff, Nat.zero_le, Nat.zero_add, Nat.add_zero]
  have q8 : (g ++ (((.inr 0, [.ref 106, .ref 108, .ref 110, .ref 111, .ref 123, .ref 125, .ref 127, .ref 129, .null, .int (-1)]) : AC) :: (((((((zc 107 40 ++ zr 109) ++ [((.inr 3, [.int 0, .int 86, .int 0]) : AC)]) ++ zb 111) ++ zc 124 300) ++ zc 126 300) ++ zc 128 300) ++ zs 130))).length = 131 := by rw [l5 hg]; rfl
  simp only [k_1_112, k_1_112N, k_1_116, k_1_116i, k_1_117, k_1_119, k_1_121, k_1_113, k_1_122, k_1_125, k_1_128, wid_c, am_cat, am_kill, Value.category, List.map_cons, List.map_nil, List.sum_cons, List.sum_nil, Option.toList_some, Option.toList_none, List.cons_append, List.nil_append, List.length_cons, List.length_nil, List.getD_cons_succ, List.getD_cons_zero, List.set_cons_succ, List.set_cons_zero, Nat.reduceAdd, Nat.reduceLT, Nat.reduceLeDiff, Nat.zero_le, Nat.zero_add, Nat.add_zero]
  rw [nw_x (by rw [q8, sN5]; decide)]
  rw [q8, app5]
  have r8 := f5 (Y := ((((((((zc 107 40 ++ zr 109) ++ [((.inr 3, [.int 0, .int 86, .int 0]) : AC)]) ++ zb 111) ++ zc 124 300) ++ zc 126 300) ++ zc 128 300) ++ zs 130) ++ zx 131 (nI (wid x)))) hg (a := ((.inr 0, [.ref 106, .ref 108, .ref 110, .ref 111, .ref 123, .ref 125, .ref 127, .ref 129, .null, .int (-1)]) : AC))
  simp only [k_1_131, okG_iff r8, hput_of r8, s5 hg, hN, am_cat, am_kill, Value.category, List.map_cons, List.map_nil, List.sum_cons, List.sum_nil, Option.toList_some, Option.toList_none, List.cons_append, List.nil_append, List.length_cons, List.length_nil, List.getD_cons_succ, List.getD_cons_zero, List.set_cons_succ, List.set_cons_zero, Nat.reduceAdd, Nat.reduceLT, Nat.reduceLeDiff, Nat.zero_le, Nat.zero_add, Nat.add_zero]
  simp only [k_1_134, am_cat, am_kill, Value.category, List.map_cons, List.map_nil, List.sum_cons, List.sum_nil, Option.toList_some, Option.toList_none, List.cons_append, List.nil_append, List.length_cons, List.length_nil, List.getD_cons_succ, List.getD_cons_zero, List.set_cons_succ, List.set_cons_zero, Nat.reduceAdd, Nat.reduceLT, Nat.reduceLeDiff, Nat.zero_le, Nat.zero_add, Nat.add_zero]
  exact K
