/-! THE PROGRAM'S OBJECTS AT THE START -/
def zc (a n : Nat) : AH := [(.inr 1, [.ref a, .int 0]), (.inl .char, List.replicate n (.int 0))]
def zr (a : Nat) : AH := [(.inr 2, [.ref a, .int 0]), (.inl (.object "TestEmitter$Type"), List.replicate 4 .null)]
def zd (a : Nat) : AH := [(.inr 5, [.ref a, .int 0, .int 0]), (.inl .int, List.replicate 60 (.int 0))]
def zs (a : Nat) : AH := [(.inr 6, [.ref a, .int 0, .int 0]), (.inl (.object "TestEmitter$Chars"), List.replicate 20 .null)]
def zx (a : Nat) (x : Int32) : AH := (.inr 7, [.int x, .ref (a + 1), .ref (a + 3), .int 0, .int 0, .int 0, .int 0]) :: (zc (a + 2) 1024 ++ [(.inl .int, List.replicate 64 (.int 0))])
def zb (a : Nat) : AH := (.inr 4, [.ref (a + 1), .ref (a + 3)]) :: (zd (a + 2) ++ ((.inl (.object "TestEmitter$TypeRow"), [.ref (a + 4), .ref (a + 6), .ref (a + 8), .ref (a + 10)]) :: (zr (a + 5) ++ (zr (a + 7) ++ (zr (a + 9) ++ zr (a + 11))))))
theorem set_mid {h r : AH} {a c : AC} : (h ++ a :: r).set h.length c = h ++ c :: r := by
  rw [List.set_append_right _ _ (Nat.le_refl _), Nat.sub_self]
  rfl
theorem get_mid {h r : AH} {a : AC} : (h ++ a :: r)[h.length]? = some a := by
  rw [List.getElem?_append_right (Nat.le_refl _), Nat.sub_self]
  rfl
section NEW
variable {h : AH} {d : Nat} {Q : Option Value → AH → Prop}
theorem nw_c {n : Nat} {x : Int32} (hs : sN ≤ h.length) (hn : n < 2 ^ 20) (hx : x = nI n) : wp (d + 1) 2 0 [some (.ref h.length), some (.int x)] [] (h ++ [((.inr 1, [.null, .int 0]) : AC)]) Q ↔ Q none (h ++ zc (h.length + 1) n) := by
  rw [hx, sp_cinit get_top hs hn, List.append_assoc, List.length_append]
  show Q none ((h ++ (_ :: _)).set h.length _) ↔ _
  rw [set_mid]
  exact Iff.rfl
theorem nw_r (hs : sN ≤ h.length) : wp (d + 1) 3 0 [some (.ref h.length)] [] (h ++ [((.inr 2, [.null, .int 0]) : AC)]) Q ↔ Q none (h ++ zr (h.length + 1)) := by
  rw [sp_rinit get_top hs, List.append_assoc, List.length_append]
  show Q none ((h ++ (_ :: _)).set h.length _) ↔ _
  rw [set_mid]
  exact Iff.rfl
theorem nw_t {x y z : Int32} (hs : sN ≤ h.length) : wp (d + 1) 4 0 [some (.ref h.length), some (.int x), some (.int y), some (.int z)] [] (h ++ [((.inr 3, [.int 0, .int 0, .int 0]) : AC)]) Q ↔ Q none (h ++ [((.inr 3, [.int x, .int y, .int z]) : AC)]) := by
  rw [sp_tinit get_top hs]
  show Q none ((h ++ (_ :: _)).set h.length _) ↔ _
  rw [set_mid]
theorem nw_d (hs : sN ≤ h.length) : wp (d + 1) 6 0 [some (.ref h.length)] [] (h ++ [((.inr 5, [.null, .int 0, .int 0]) : AC)]) Q ↔ Q none (h ++ zd (h.length + 1)) := by
  have e1 : ¬ (60 : Int32) < 0 := by decide
  have e2 : (60 : Int32).toNatClampNeg = 60 := by decide
  have e3 : 60 * 4 ≤ 536870912 := by decide
  simp only [k_6_0, k_6_0N, k_6_4, k_6_4N, k_6_5, k_6_1, am_cat, am_kill, Value.category, List.map_cons, List.map_nil, List.sum_cons, List.sum_nil, Option.toList_some, Option.toList_none, List.cons_append, List.nil_append, List.length_cons, List.length_nil, List.getD_cons_succ, List.getD_cons_zero, List.set_cons_succ, List.set_cons_zero, Nat.reduceAdd, Nat.reduceLT, Nat.reduceLeDiff, Nat.zero_le, Nat.zero_add, Nat.add_zero]
  rw [k_6_7 e1 (by rw [e2]; exact e3), e2]
  have t1 : (h ++ [((.inr 5, [.null, .int 0, .int 0]) : AC)] ++ [((.inl .int, List.replicate 60 (.int 0)) : AC)])[h.length]? = some (.inr 5, [.null, .int 0, .int 0]) := by rw [List.append_assoc]; exact get_mid
  simp only [k_6_12, k_6_9, okG_iff t1, hput_of t1, hs, am_cat, am_kill, Value.category, List.map_cons, List.map_nil, List.sum_cons, List.sum_nil, Option.toList_some, Option.toList_none, List.cons_append, List.nil_append, List.length_cons, List.length_nil, List.getD_cons_succ, List.getD_cons_zero, List.set_cons_succ, List.set_cons_zero, Nat.reduceAdd, Nat.reduceLT, Nat.reduceLeDiff, Nat.zero_le, Nat.zero_add, Nat.add_zero]
  rw [List.append_assoc, List.length_append]
  show Q none ((h ++ (_ :: _)).set h.length _) ↔ _
  rw [set_mid]
  exact Iff.rfl
theorem nw_s (hs : sN ≤ h.length) : wp (d + 1) 7 0 [some (.ref h.length)] [] (h ++ [((.inr 6, [.null, .int 0, .int 0]) : AC)]) Q ↔ Q none (h ++ zs (h.length + 1)) := by
  have e1 : ¬ (20 : Int32) < 0 := by decide
  have e2 : (20 : Int32).toNatClampNeg = 20 := by decide
  have e3 : 20 * 4 ≤ 536870912 := by decide
  simp only [k_7_0, k_7_0N, k_7_4, k_7_4N, k_7_5, k_7_1, am_cat, am_kill, Value.category, List.map_cons, List.map_nil, List.sum_cons, List.sum_nil, Option.toList_some, Option.toList_none, List.cons_append, List.nil_append, List.length_cons, List.length_nil, List.getD_cons_succ, List.getD_cons_zero, List.set_cons_succ, List.set_cons_zero, Nat.reduceAdd, Nat.reduceLT, Nat.reduceLeDiff, Nat.zero_le, Nat.zero_add, Nat.add_zero]
  rw [k_7_7 e1 (by rw [e2]; exact e3), e2]
  have t1 : (h ++ [((.inr 6, [.null, .int 0, .int 0]) : AC)] ++ [((.inl (.object "TestEmitter$Chars"), List.replicate 20 .null) : AC)])[h.length]? = some (.inr 6, [.null, .int 0, .int 0]) := by rw [List.append_assoc]; exact get_mid
  simp only [k_7_13, k_7_10, okG_iff t1, hput_of t1, hs, am_cat, am_kill, Value.category, List.map_cons, List.map_nil, List.sum_cons, List.sum_nil, Option.toList_some, Option.toList_none, List.cons_append, List.nil_append, List.length_cons, List.length_nil, List.getD_cons_succ, List.getD_cons_zero, List.set_cons_succ, List.set_cons_zero, Nat.reduceAdd, Nat.reduceLT, Nat.reduceLeDiff, Nat.zero_le, Nat.zero_add, Nat.add_zero]
  rw [List.append_assoc, List.length_append]
  show Q none ((h ++ (_ :: _)).set h.length _) ↔ _
  rw [set_mid]
  exact Iff.rfl
theorem nw_x {x : Int32} (hs : sN ≤ h.length) : wp (d + 2) 8 0 [some (.ref h.length), some (.int x)] [] (h ++ [((.inr 7, [.int 0, .null, .null, .int 0, .int 0, .int 0, .int 0]) : AC)]) Q ↔ Q none (h ++ zx h.length x) := by
  have e1 : ¬ (64 : Int32) < 0 := by decide
  have e2 : (64 : Int32).toNatClampNeg = 64 := by decide
  have e3 : 64 * 4 ≤ 536870912 := by decide
  have l1 : (h ++ [((.inr 7, [.int 0, .null, .null, .int 0, .int 0, .int 0, .int 0]) : AC)]).length = h.length + 1 := by rw [List.length_append]; rfl
  simp only [k_8_0, k_8_0N, k_8_4, k_8_4N, k_8_8, k_8_8i, k_8_9, k_8_1, k_8_5, k_8_12, am_cat, am_kill, Value.category, List.map_cons, List.map_nil, List.sum_cons, List.sum_nil, Option.toList_some, Option.toList_none, List.cons_append, List.nil_append, List.length_cons, List.length_nil, List.getD_cons_succ, List.getD_cons_zero, List.set_cons_succ, List.set_cons_zero, Nat.reduceAdd, Nat.reduceLT, Nat.reduceLeDiff, Nat.zero_le, Nat.zero_add, Nat.add_zero]
  rw [nw_c (by rw [l1]; omega) (by decide) (show (1024 : Int32) = nI 1024 from rfl)]
  rw [l1, List.append_assoc, List.cons_append, List.nil_append]
  have t1 : (h ++ (((.inr 7, [.int 0, .null, .null, .int 0, .int 0, .int 0, .int 0]) : AC) :: zc (h.length + 1 + 1) 1024))[h.length]? = some (.inr 7, [.int 0, .null, .null, .int 0, .int 0, .int 0, .int 0]) := get_mid
  have s1 : (h ++ (((.inr 7, [.int 0, .null, .null, .int 0, .int 0, .int 0, .int 0]) : AC) :: zc (h.length + 1 + 1) 1024)).set h.length (.inr 7, [.int 0, .ref (h.length + 1), .null, .int 0, .int 0, .int 0, .int 0]) = h ++ ((.inr 7, [.int 0, .ref (h.length + 1), .null, .int 0, .int 0, .int 0, .int 0]) :: zc (h.length + 2) 1024) := set_mid
  simp only [k_8_15, okG_iff t1, hput_of t1, hs, s1, am_cat, am_kill, Value.category, List.map_cons, List.map_nil, List.sum_cons, List.sum_nil, Option.toList_some, Option.toList_none, List.cons_append, List.nil_append, List.length_cons, List.length_nil, List.getD_cons_succ, List.getD_cons_zero, List.set_cons_succ, List.set_cons_zero, Nat.reduceAdd, Nat.reduceLT, Nat.reduceLeDiff, Nat.zero_le, Nat.zero_add, Nat.add_zero]
  have l2 : (h ++ ((.inr 7, [.int 0, .ref (h.length + 1), .null, .int 0, .int 0, .int 0, .int 0]) :: zc (h.length + 2) 1024)).length = h.length + 3 := by rw [List.length_append]; rfl
  simp only [k_8_18, k_8_18N, k_8_19, am_cat, am_kill, Value.category, List.map_cons, List.map_nil, List.sum_cons, List.sum_nil, Option.toList_some, Option.toList_none, List.cons_append, List.nil_append, List.length_cons, List.length_nil, List.getD_cons_succ, List.getD_cons_zero, List.set_cons_succ, List.set_cons_zero, Nat.reduceAdd, Nat.reduceLT, Nat.reduceLeDiff, Nat.zero_le, Nat.zero_add, Nat.add_zero]
  rw [k_8_21 e1 (by rw [e2]; exact e3), e2, l2]
  rw [List.append_assoc, List.cons_append]
  have t2 : (h ++ ((.inr 7, [.int 0, .ref (h.length + 1), .null, .int 0, .int 0, .int 0, .int 0]) :: (zc (h.length + 2) 1024 ++ [((.inl .int, List.replicate 64 (.int 0)) : AC)])))[h.length]? = some (.inr 7, [.int 0, .ref (h.length + 1), .null, .int 0, .int 0, .int 0, .int 0]) := get_mid
  have s2 : (h ++ ((.inr 7, [.int 0, .ref (h.length + 1), .null, .int 0, .int 0, .int 0, .int 0]) :: (zc (h.length + 2) 1024 ++ [((.inl .int, List.replicate 64 (.int 0)) : AC)]))).set h.length (.inr 7, [.int 0, .ref (h.length + 1), .ref (h.length + 3), .int 0, .int 0, .int 0, .int 0]) = h ++ ((.inr 7, [.int 0, .ref (h.length + 1), .ref (h.length + 3), .int 0, .int 0, .int 0, .int 0]) :: (zc (h.length + 2) 1024 ++ [((.inl .int, List.replicate 64 (.int 0)) : AC)])) := set_mid
  simp only [k_8_23, okG_iff t2, hput_of t2, hs, s2, am_cat, am_kill, Value.category, List.map_cons, List.map_nil, List.sum_cons, List.sum_nil, Option.toList_some, Option.toList_none, List.cons_append, List.nil_append, List.length_cons, List.length_nil, List.getD_cons_succ, List.getD_cons_zero, List.set_cons_succ, List.set_cons_zero, Nat.reduceAdd, Nat.reduceLT, Nat.reduceLeDiff, Nat.zero_le, Nat.zero_add, Nat.add_zero]
  have t3 : (h ++ ((.inr 7, [.int 0, .ref (h.length + 1), .ref (h.length + 3), .int 0, .int 0, .int 0, .int 0]) :: (zc (h.length + 2) 1024 ++ [((.inl .int, List.replicate 64 (.int 0)) : AC)])))[h.length]? = some (.inr 7, [.int 0, .ref (h.length + 1), .ref (h.length + 3), .int 0, .int 0, .int 0, .int 0]) := get_mid
  simp only [k_8_26, k_8_26N, k_8_27, k_8_31, k_8_28, okG_iff t3, hput_of t3, hs, set_mid, am_cat, am_kill, Value.category, List.map_cons, List.map_nil, List.sum_cons, List.sum_nil, Option.toList_some, Option.toList_none, List.cons_append, List.nil_append, List.length_cons, List.length_nil, List.getD_cons_succ, List.getD_cons_zero, List.set_cons_succ, List.set_cons_zero, Nat.reduceAdd, Nat.reduceLT, Nat.reduceLeDiff, Nat.zero_le, Nat.zero_add, Nat.add_zero]
  exact Iff.rfl
theorem nb_step {i : Nat} {vs : List Value} {Y : AH} (hs : sN ≤ h.length) (hi : i < 4) (hv : vs.length = 4) (hY : Y.length = 2 * i) (K : wp (d + 2) 5 25 [some (.ref h.length), some (.int (nI (i + 1)))] [] (h ++ ((.inr 4, [.ref (h.length + 1), .ref (h.length + 3)]) :: (zd (h.length + 2) ++ ((.inl (.object "TestEmitter$TypeRow"), vs.set i (.ref (h.length + (4 + 2 * i)))) :: (Y ++ zr (h.length + (5 + 2 * i))))))) Q) : wp (d + 2) 5 25 [some (.ref h.length), some (.int (nI i))] [] (h ++ ((.inr 4, [.ref (h.length + 1), .ref (h.length + 3)]) :: (zd (h.length + 2) ++ ((.inl (.object "TestEmitter$TypeRow"), vs) :: Y)))) Q := by
  have t1 : (h ++ ((.inr 4, [.ref (h.length + 1), .ref (h.length + 3)]) :: (zd (h.length + 2) ++ ((.inl (.object "TestEmitter$TypeRow"), vs) :: Y))))[h.length]? = some (.inr 4, [.ref (h.length + 1), .ref (h.length + 3)]) := get_mid
  have l1 : (h ++ ((.inr 4, [.ref (h.length + 1), .ref (h.length + 3)]) :: (zd (h.length + 2) ++ ((.inl (.object "TestEmitter$TypeRow"), vs) :: Y)))).length = h.length + (4 + 2 * i) := by
    rw [List.length_append, List.length_cons, List.length_append, List.length_cons, hY]
    show h.length + (2 + (2 * i + 1) + 1) = _
    omega
  have t2 : (h ++ ((.inr 4, [.ref (h.length + 1), .ref (h.length + 3)]) :: (zd (h.length + 2) ++ ((.inl (.object "TestEmitter$TypeRow"), vs) :: Y))))[h.length + 3]? = some (.inl (.object "TestEmitter$TypeRow"), vs) := by
    rw [List.getElem?_append_right (by omega), show h.length + 3 - h.length = 3 by omega]
    rfl
  have e1 : (nI i < (4 : Int32)) := nI_lt (b := 4) hi (by omega)
  generalize hL : h ++ ((.inr 4, [.ref (h.length + 1), .ref (h.length + 3)]) :: (zd (h.length + 2) ++ ((.inl (.object "TestEmitter$TypeRow"), vs) :: Y))) = L at t1 l1 t2
  simp only [k_5_25, k_5_26, k_5_27, k_5_30, k_5_30N, k_5_34, k_5_38, k_5_38i, k_5_31, k_5_35, k_5_39, e1, if_true, okG_iff t1, fld_of t1, am_cat, am_kill, Value.category, List.map_cons, List.map_nil, List.sum_cons, List.sum_nil, Option.toList_some, Option.toList_none, List.cons_append, List.nil_append, List.length_cons, List.length_nil, List.getD_cons_succ, List.getD_cons_zero, List.set_cons_succ, List.set_cons_zero, Nat.reduceAdd, Nat.reduceLT, Nat.reduceLeDiff, Nat.zero_le, Nat.zero_add, Nat.add_zero]
  rw [nw_r (by omega)]
  have f1 : (L ++ zr (L.length + 1))[L.length]? = some (.inr 2, [.ref (L.length + 1), .int 0]) := get_mid
  have f2 : (L ++ zr (L.length + 1))[h.length + 3]? = some (.inl (.object "TestEmitter$TypeRow"), vs) := by rw [List.getElem?_append_left (lt_of_get t2)]; exact t2
  have o1 : okA (fun ty => decide (ty = .object (cN 2))) (L ++ zr (L.length + 1)) (h.length + 3) (nI i) := ⟨_, _, f2, by decide, nI_pos (by omega), by rw [nI_clamp (by omega)]; omega⟩
  show wp (d + 2) 5 42 [some (.ref h.length), some (.int (nI i))] [.ref L.length, .int (nI i), .ref (h.length + 3)] _ _
  rw [k_5_42 f1 o1 (by omega), hast_of f2, nI_clamp (by omega)]
  simp only [k_5_43, k_5_46, am_kill, nI_1, am_cat, am_kill, Value.category, List.map_cons, List.map_nil, List.sum_cons, List.sum_nil, Option.toList_some, Option.toList_none, List.cons_append, List.nil_append, List.length_cons, List.length_nil, List.getD_cons_succ, List.getD_cons_zero, List.set_cons_succ, List.set_cons_zero, Nat.reduceAdd, Nat.reduceLT, Nat.reduceLeDiff, Nat.zero_le, Nat.zero_add, Nat.add_zero]
  have e2 : (L ++ zr (L.length + 1)).set (h.length + 3) (.inl (.object "TestEmitter$TypeRow"), vs.set i (.ref L.length)) = h ++ ((.inr 4, [.ref (h.length + 1), .ref (h.length + 3)]) :: (zd (h.length + 2) ++ ((.inl (.object "TestEmitter$TypeRow"), vs.set i (.ref (h.length + (4 + 2 * i)))) :: (Y ++ zr (h.length + (5 + 2 * i)))))) := by
    rw [l1, ← hL, List.append_assoc, List.set_append_right _ _ (by omega), show h.length + 3 - h.length = 3 by omega, show h.length + (4 + 2 * i) + 1 = h.length + (5 + 2 * i) by omega, List.cons_append, List.append_assoc, List.cons_append]
    rfl
  rw [e2]
  exact K
theorem nw_b (hs : sN ≤ h.length) (K : Q none (h ++ zb h.length)) : wp (d + 2) 5 0 [some (.ref h.length), none] [] (h ++ [((.inr 4, [.null, .null]) : AC)]) Q := by
  have l1 : (h ++ [((.inr 4, [.null, .null]) : AC)]).length = h.length + 1 := by rw [List.length_append]; rfl
  simp only [k_5_0, k_5_0N, k_5_4, k_5_4N, k_5_8, k_5_8i, k_5_1, k_5_5, k_5_9, am_cat, am_kill, Value.category, List.map_cons, List.map_nil, List.sum_cons, List.sum_nil, Option.toList_some, Option.toList_none, List.cons_append, List.nil_append, List.length_cons, List.length_nil, List.getD_cons_succ, List.getD_cons_zero, List.set_cons_succ, List.set_cons_zero, Nat.reduceAdd, Nat.reduceLT, Nat.reduceLeDiff, Nat.zero_le, Nat.zero_add, Nat.add_zero]
  rw [nw_d (by rw [l1]; omega), l1, List.append_assoc, List.cons_append, List.nil_append]
  have t1 : (h ++ (((.inr 4, [.null, .null]) : AC) :: zd (h.length + 1 + 1)))[h.length]? = some (.inr 4, [.null, .null]) := get_mid
  have s1 : (h ++ (((.inr 4, [.null, .null]) : AC) :: zd (h.length + 1 + 1))).set h.length (.inr 4, [.ref (h.length + 1), .null]) = h ++ ((.inr 4, [.ref (h.length + 1), .null]) :: zd (h.length + 2)) := set_mid
  simp only [k_5_12, okG_iff t1, hput_of t1, hs, s1, am_cat, am_kill, Value.category, List.map_cons, List.map_nil, List.sum_cons, List.sum_nil, Option.toList_some, Option.toList_none, List.cons_append, List.nil_append, List.length_cons, List.length_nil, List.getD_cons_succ, List.getD_cons_zero, List.set_cons_succ, List.set_cons_zero, Nat.reduceAdd, Nat.reduceLT, Nat.reduceLeDiff, Nat.zero_le, Nat.zero_add, Nat.add_zero]
  have l2 : (h ++ ((.inr 4, [.ref (h.length + 1), .null]) :: zd (h.length + 2))).length = h.length + 3 := by rw [List.length_append]; rfl
  simp only [k_5_15, k_5_15N, k_5_16, am_cat, am_kill, Value.category, List.map_cons, List.map_nil, List.sum_cons, List.sum_nil, Option.toList_some, Option.toList_none, List.cons_append, List.nil_append, List.length_cons, List.length_nil, List.getD_cons_succ, List.getD_cons_zero, List.set_cons_succ, List.set_cons_zero, Nat.reduceAdd, Nat.reduceLT, Nat.reduceLeDiff, Nat.zero_le, Nat.zero_add, Nat.add_zero]
  rw [k_5_17 (by decide) (by decide), l2, List.append_assoc, List.cons_append]
  have t2 : (h ++ ((.inr 4, [.ref (h.length + 1), .null]) :: (zd (h.length + 2) ++ [((.inl (.object "TestEmitter$TypeRow"), List.replicate (4 : Int32).toNatClampNeg .null) : AC)])))[h.length]? = some (.inr 4, [.ref (h.length + 1), .null]) := get_mid
  have s2 : (h ++ ((.inr 4, [.ref (h.length + 1), .null]) :: (zd (h.length + 2) ++ [((.inl (.object "TestEmitter$TypeRow"), List.replicate (4 : Int32).toNatClampNeg .null) : AC)]))).set h.length (.inr 4, [.ref (h.length + 1), .ref (h.length + 3)]) = h ++ ((.inr 4, [.ref (h.length + 1), .ref (h.length + 3)]) :: (zd (h.length + 2) ++ [((.inl (.object "TestEmitter$TypeRow"), List.replicate 4 .null) : AC)])) := set_mid
  simp only [k_5_23, k_5_24, k_5_20, okG_iff t2, hput_of t2, hs, s2, am_kill, am_cat, am_kill, Value.category, List.map_cons, List.map_nil, List.sum_cons, List.sum_nil, Option.toList_some, Option.toList_none, List.cons_append, List.nil_append, List.length_cons, List.length_nil, List.getD_cons_succ, List.getD_cons_zero, List.set_cons_succ, List.set_cons_zero, Nat.reduceAdd, Nat.reduceLT, Nat.reduceLeDiff, Nat.zero_le, Nat.zero_add, Nat.add_zero]
  refine nb_step (i := 0) hs (by decide) rfl rfl (nb_step hs (by decide) rfl rfl (nb_step hs (by decide) rfl rfl (nb_step hs (by decide) rfl rfl ?_)))
  have e4 : ¬ nI (0 + 1 + 1 + 1 + 1) < (4 : Int32) := by decide
  simp only [k_5_25, k_5_26, k_5_27, k_5_49, e4, if_false]
  exact K
end NEW
