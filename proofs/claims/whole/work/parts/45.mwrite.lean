/-! THE REFERENCE WRITES: numbers, characters, words -/
def Mst (n0 : Nat → Int32) (A0 : Nat → Nat → Int32) (D : List Int32) : Prop := n0 2 = nI D.length ∧ D.length ≤ 60 ∧ ∀ (j : Nat) (c : Int32), D[j]? = some c → A0 3 j = c
theorem and255L (y : Int64) : ∃ j, j < 256 ∧ y &&& 255 = lN j := by
  refine ⟨(y.toBitVec &&& 255#64).toNat, ?_, ?_⟩
  · rw [BitVec.toNat_and]
    exact Nat.lt_of_le_of_lt Nat.and_le_right (by decide)
  · apply Int64.toBitVec_inj.mp
    show y.toBitVec &&& 255#64 = BitVec.ofNat 64 _
    rw [BitVec.ofNat_toNat, BitVec.setWidth_eq]
def wd1 (x : Int64) (s : Int32) : List Int32 := if (x >>> (s.toInt64 &&& 63)) &&& 255 = 0 then [] else [((x >>> (s.toInt64 &&& 63)) &&& 255).toInt32]
def wd (x : Int64) : List Int32 := wd1 x 56 ++ (wd1 x 48 ++ (wd1 x 40 ++ (wd1 x 32 ++ (wd1 x 24 ++ (wd1 x 16 ++ (wd1 x 8 ++ wd1 x 0))))))
theorem wd1_len (x : Int64) (s : Int32) : (wd1 x s).length ≤ 1 := by
  unfold wd1
  split
  · exact Nat.zero_le _
  · exact Nat.le_refl _
theorem neg_lN {v : Int64} (h : v.toInt < 0) (hm : v.toInt.natAbs < 2 ^ 63) : -v = lN v.toInt.natAbs := by
  apply Int64.toInt_inj.mp
  have e : -v = Int64.ofInt (-v.toInt) := by rw [Int64.ofInt_neg, Int64.ofInt_toInt]
  rw [e, Int64.toInt_ofInt_of_le (by omega) (by omega), pk_lT hm]
  omega
theorem pos_lN {v : Int64} (h : ¬ v.toInt < 0) : v = lN v.toInt.natAbs := by
  apply Int64.toInt_inj.mp
  have := v.toInt_lt
  rw [pk_lT (by omega)]
  omega
theorem mi_n_lead {d m : Nat} {v : Int64} {h : AH} {Q : Option Value → AH → Prop} (hm : m < 2 ^ 63) : ∀ (f j : Nat), j + f = 18 → (wp d 118 28 [some (.ref 135), some (.long v), none, some (.long (lN m)), none, some (.long (lN (10 ^ j))), none] [] h Q ↔ wp d 118 50 [some (.ref 135), some (.long v), none, some (.long (lN m)), none, some (.long (lN (10 ^ ld f j m))), none] [] h Q) := by
  intro f
  induction f with
  | zero =>
    intro j hj
    obtain rfl : j = 18 := by omega
    have hy : ¬ lN (10 ^ 18) = 0 := lN_ne0 (p10_pos 18) (p10_lt (Nat.le_refl _))
    have e2 : lN m / lN (10 ^ 18) = lN (m / 10 ^ 18) := pk_lDiv hm (p10_pos 18) (p10_lt (Nat.le_refl _))
    have e3 : ¬ (9 : Int64) < lN (m / 10 ^ 18) := fun q => by
      have q1 := (pk_lLT (a := 9) (by decide) (by omega)).mp q
      have : m / 10 ^ 18 < 10 := Nat.div_lt_of_lt_mul (by omega)
      omega
    simp only [k_118_28, k_118_29, k_118_31 hy, k_118_35, k_118_36, k_118_32, e2, lg_cmp_gt, e3, if_false]
    exact Iff.rfl
  | succ f ih =>
    intro j hj
    have hk1 : j ≤ 18 := by omega
    have hy : ¬ lN (10 ^ j) = 0 := lN_ne0 (p10_pos j) (p10_lt hk1)
    have e2 : lN m / lN (10 ^ j) = lN (m / 10 ^ j) := pk_lDiv hm (p10_pos j) (p10_lt hk1)
    have hq : m / 10 ^ j < 2 ^ 63 := Nat.lt_of_le_of_lt (Nat.div_le_self _ _) hm
    have e3 : ((9 : Int64) < lN (m / 10 ^ j)) ↔ 9 < m / 10 ^ j := pk_lLT (a := 9) (by decide) hq
    have e6 : lN (10 ^ j) * 10 = lN (10 ^ (j + 1)) := lN_mul (10 ^ j) 10
    have e7 : ld (f + 1) j m = if 9 < m / 10 ^ j then ld f (j + 1) m else j := rfl
    simp only [k_118_28, k_118_29, k_118_31 hy, k_118_35, k_118_36, k_118_32, e2, lg_cmp_gt, e3]
    rw [e7]
    by_cases c : 9 < m / 10 ^ j
    · simp only [c, if_true, k_118_39, k_118_44, k_118_45, k_118_47, k_118_41, e6, am_cat, am_kill, Value.category, List.map_cons, List.map_nil, List.sum_cons, List.sum_nil, Option.toList_some, Option.toList_none, List.cons_append, List.nil_append, List.length_cons, List.length_nil, List.getD_cons_succ, List.getD_cons_zero, List.set_cons_succ, List.set_cons_zero, Nat.reduceAdd, Nat.reduceLT, Nat.reduceLeDiff, Nat.zero_le, Nat.zero_add, Nat.add_zero]
      exact ih (j + 1) (by omega)
    · simp only [c, if_false]
section MX
variable {P S h : AH} {n0 : Nat → Int32} {A0 : Nat → Nat → Int32} {k u ar d : Nat} {t w D : List Int32} {nl : Int32} {Q : Option Value → AH → Prop}
theorem MS.ov (hP : P.length = 135) (M : MS P S n0 A0 k t u ar w nl h) : okV h 135 8 ↔ True := by
  obtain ⟨n, A, rfl, -⟩ := M
  exact ovw hP
theorem mi_next (hP : P.length = 135) (X : Mst n0 A0 D) (M : MS P S n0 A0 k t u ar w nl h) (hb : u < 2 ^ 30) (K : ∀ h', MS P S n0 A0 k t (u + 1) ar w nl h' → Q (some (.int (nx D u))) h') : wp d 112 0 [some (.ref 135)] [] h Q := by
  obtain ⟨n, A, rfl, m1, m2, m3, m4, m5, m6, m7, m8, m9, m10, m11⟩ := M
  obtain ⟨x1, x2, x3⟩ := X
  have hs : sN ≤ 135 := by decide
  have e0 : upd n 4 (nI (u + 1)) 4 = nI (u + 1) := pk_us
  have e2 : upd n 4 (nI (u + 1)) 2 = nI D.length := by rw [pk_un (by decide), m1 2 (by decide) (by decide) (by decide) (by decide) (by decide), x1]
  have e3 : (nI D.length < nI (u + 1)) ↔ D.length < u + 1 := nI_ltI (by omega) (by omega)
  have M' : MS P S n0 A0 k t (u + 1) ar w nl (wr P S (upd n 4 (nI (u + 1))) A) := ⟨_, A, rfl, fun i i1 i2 i3 i4 i5 => by rw [pk_un i1]; exact m1 i i1 i2 i3 i4 i5, by rw [pk_un (by decide)]; exact m2, pk_us, by rw [pk_un (by decide)]; exact m4, by rw [pk_un (by decide)]; exact m5, by rw [pk_un (by decide)]; exact m6, m7, m8, m9, m10, m11⟩
  simp only [k_112_0, k_112_0N, k_112_1, k_112_1i, k_112_5, k_112_6, k_112_10, k_112_10N, k_112_14, k_112_14N, k_112_18, k_112_2, k_112_7, k_112_11, k_112_15, ogw hP, fw_4 hP, fw_2 hP, hw_4 hP, hs, m3, nI_1, e0, e2, e3, am_cat, am_kill, Value.category, List.map_cons, List.map_nil, List.sum_cons, List.sum_nil, Option.toList_some, Option.toList_none, List.cons_append, List.nil_append, List.length_cons, List.length_nil, List.getD_cons_succ, List.getD_cons_zero, List.set_cons_succ, List.set_cons_zero, Nat.reduceAdd, Nat.reduceLT, Nat.reduceLeDiff, Nat.zero_le, Nat.zero_add, Nat.add_zero]
  by_cases c : u < D.length
  · have e4 : A 3 u = nx D u := by
      rw [m7 3 (by decide), x3 u D[u] (by simp [c])]
      unfold nx
      rw [List.getD_eq_getElem?_getD, List.getElem?_eq_getElem c]
      rfl
    rw [if_neg (by omega)]
    simp only [k_112_21, k_112_21N, k_112_25, k_112_25N, k_112_29, k_112_30, k_112_22, k_112_26, ogw hP, fw_13 hP, fw_4 hP, e0, nI_pred, am_cat, am_kill, Value.category, List.map_cons, List.map_nil, List.sum_cons, List.sum_nil, Option.toList_some, Option.toList_none, List.cons_append, List.nil_append, List.length_cons, List.length_nil, List.getD_cons_succ, List.getD_cons_zero, List.set_cons_succ, List.set_cons_zero, Nat.reduceAdd, Nat.reduceLT, Nat.reduceLeDiff, Nat.zero_le, Nat.zero_add, Nat.add_zero]
    rw [k_112_31 (ow_3 hP (by omega)), aw_3 hP (by omega), e4]
    simp only [k_112_32, k_112_36]
    exact K _ M'
  · rw [if_pos (by omega)]
    simp only [k_112_35, k_112_36]
    have e5 : nx D u = 0 := by
      unfold nx
      rw [List.getD_eq_getElem?_getD, List.getElem?_eq_none (by omega)]
      rfl
    rw [e5] at K
    exact K _ M'
theorem mi_nullset (hP : P.length = 135) {x : Int32} (M : MS P S n0 A0 k t u ar w nl h) : ∃ n A, h = wr P S n A ∧ MS P S n0 A0 k t u ar w x (wr P S (upd n 24 x) A) := by
  obtain ⟨n, A, rfl, m1, m2, m3, m4, m5, m6, m7⟩ := M
  exact ⟨n, A, rfl, _, A, rfl, fun i i1 i2 i3 i4 i5 => by rw [pk_un i5]; exact m1 i i1 i2 i3 i4 i5, by rw [pk_un (by decide)]; exact m2, by rw [pk_un (by decide)]; exact m3, by rw [pk_un (by decide)]; exact m4, by rw [pk_un (by decide)]; exact m5, pk_us, m7⟩
theorem mi_plan (hP : P.length = 135) {x : Int32} (M : MS P S n0 A0 k t u ar w nl h) (hb : w.length < 400) (K : ∀ h', MS P S n0 A0 k t u ar (w ++ [x]) nl h' → Q none h') : wp d 108 0 [some (.ref 135), some (.int x)] [] h Q := by
  obtain ⟨n, A, rfl, m1, m2, m3, m4, m5, m6, m7, m8, m9, m10, m11⟩ := M
  have hs : sN ≤ 135 := by decide
  have hs2 : sN ≤ 146 := by decide
  simp only [k_108_0, k_108_0N, k_108_4, k_108_4N, k_108_8, k_108_1, k_108_5, ogw hP, fw_22 hP, fw_23 hP, m5, am_cat, am_kill, Value.category, List.map_cons, List.map_nil, List.sum_cons, List.sum_nil, Option.toList_some, Option.toList_none, List.cons_append, List.nil_append, List.length_cons, List.length_nil, List.getD_cons_succ, List.getD_cons_zero, List.set_cons_succ, List.set_cons_zero, Nat.reduceAdd, Nat.reduceLT, Nat.reduceLeDiff, Nat.zero_le, Nat.zero_add, Nat.add_zero]
  rw [k_108_9 (ow_10 hP hb) hs2, sw_10 hP hb]
  simp only [k_108_10, k_108_10N, k_108_11, k_108_11i, k_108_15, k_108_16, k_108_20, k_108_12, k_108_17, ogw hP, fw_23 hP, hw_23 hP, hs, m5, nI_1, am_cat, am_kill, Value.category, List.map_cons, List.map_nil, List.sum_cons, List.sum_nil, Option.toList_some, Option.toList_none, List.cons_append, List.nil_append, List.length_cons, List.length_nil, List.getD_cons_succ, List.getD_cons_zero, List.set_cons_succ, List.set_cons_zero, Nat.reduceAdd, Nat.reduceLT, Nat.reduceLeDiff, Nat.zero_le, Nat.zero_add, Nat.add_zero]
  refine K _ ⟨_, _, rfl, fun i i1 i2 i3 i4 i5 => by rw [pk_un i4]; exact m1 i i1 i2 i3 i4 i5, by rw [pk_un (by decide)]; exact m2, by rw [pk_un (by decide)]; exact m3, by rw [pk_un (by decide)]; exact m4, by rw [pk_us, List.length_append]; rfl, by rw [pk_un (by decide)]; exact m6, fun i hi => by rw [uA_r (by omega)]; exact m7 i hi, fun j y hj => ?_, by rw [uA_n (by decide)]; exact m9, fun j c hj hc => by rw [uA_n (by decide)]; exact m10 j c hj hc, fun k' hk' hne => ⟨by rw [uA_n (by decide)]; exact (m11 k' hk' hne).1, fun j hj => by rw [uA_n (by decide)]; exact (m11 k' hk' hne).2 j hj⟩⟩
  rw [List.getElem?_append] at hj
  by_cases c2 : j < w.length
  · rw [if_pos c2] at hj
    rw [uA_m (by omega)]
    exact m8 j y hj
  · rw [if_neg c2] at hj
    have hz : j - w.length < 1 := (List.getElem?_eq_some_iff.mp hj).1
    obtain rfl : j = w.length := by omega
    rw [Nat.sub_self] at hj
    cases hj
    rw [uA_s]
theorem mi_w1 (hP : P.length = 135) (hk : k < 4) {x : Int64} {s : Int32} (hs : ¬ s < 0) (M : MS P S n0 A0 k t u ar w nl h) (hb : t.length < 2 ^ 30) (K : ∀ h', MS P S n0 A0 k (t ++ wd1 x s) u ar w nl h' → wp (d + 1) 105 3 [some (.ref 135), some (.long x), none, some (.int (s + (-8)))] [] h' Q) : wp (d + 1) 105 3 [some (.ref 135), some (.long x), none, some (.int s)] [] h Q := by
  simp only [k_105_3, k_105_4, k_105_7, k_105_8, k_105_9, k_105_13, k_105_14, k_105_15, k_105_16, k_105_10, hs, if_false, lg_cmp_eq, am_cat, am_kill, Value.category, List.map_cons, List.map_nil, List.sum_cons, List.sum_nil, Option.toList_some, Option.toList_none, List.cons_append, List.nil_append, List.length_cons, List.length_nil, List.getD_cons_succ, List.getD_cons_zero, List.set_cons_succ, List.set_cons_zero, Nat.reduceAdd, Nat.reduceLT, Nat.reduceLeDiff, Nat.zero_le, Nat.zero_add, Nat.add_zero]
  unfold wd1 at K
  by_cases c : (x >>> (s.toInt64 &&& 63)) &&& 255 = 0
  · rw [if_pos c] at K ⊢
    simp only [k_105_31, k_105_34, am_cat, am_kill, Value.category, List.map_cons, List.map_nil, List.sum_cons, List.sum_nil, Option.toList_some, Option.toList_none, List.cons_append, List.nil_append, List.length_cons, List.length_nil, List.getD_cons_succ, List.getD_cons_zero, List.set_cons_succ, List.set_cons_zero, Nat.reduceAdd, Nat.reduceLT, Nat.reduceLeDiff, Nat.zero_le, Nat.zero_add, Nat.add_zero]
    exact K h (by rw [List.append_nil]; exact M)
  · rw [if_neg c] at K ⊢
    obtain ⟨j, hj, ej⟩ := and255L (x >>> (s.toInt64 &&& 63))
    have hc : chr ((x >>> (s.toInt64 &&& 63)) &&& 255).toInt32 := by rw [ej, lN_i]; exact chr_nI (by omega)
    simp only [k_105_19, k_105_19N, k_105_20, k_105_21, k_105_22, k_105_26, k_105_27, k_105_23, k_105_28, M.ov hP, am_cat, am_kill, Value.category, List.map_cons, List.map_nil, List.sum_cons, List.sum_nil, Option.toList_some, Option.toList_none, List.cons_append, List.nil_append, List.length_cons, List.length_nil, List.getD_cons_succ, List.getD_cons_zero, List.set_cons_succ, List.set_cons_zero, Nat.reduceAdd, Nat.reduceLT, Nat.reduceLeDiff, Nat.zero_le, Nat.zero_add, Nat.add_zero]
    refine mi_put hP hk hc M hb (fun h1 M1 => ?_)
    simp only [k_105_31, k_105_34, am_cat, am_kill, Value.category, List.map_cons, List.map_nil, List.sum_cons, List.sum_nil, Option.toList_some, Option.toList_none, List.cons_append, List.nil_append, List.length_cons, List.length_nil, List.getD_cons_succ, List.getD_cons_zero, List.set_cons_succ, List.set_cons_zero, Nat.reduceAdd, Nat.reduceLT, Nat.reduceLeDiff, Nat.zero_le, Nat.zero_add, Nat.add_zero]
    exact K h1 M1
theorem mi_word (hP : P.length = 135) (hk : k < 4) {x : Int64} (M : MS P S n0 A0 k t u ar w nl h) (hb : t.length < 2 ^ 29) (K : ∀ h', MS P S n0 A0 k (t ++ wd x) u ar w nl h' → Q none h') : wp (d + 1) 105 0 [some (.ref 135), some (.long x), none, none] [] h Q := by
  have l1 := wd1_len x
  have b1 := l1 56
  have b2 := l1 48
  have b3 := l1 40
  have b4 := l1 32
  have b5 := l1 24
  have b6 := l1 16
  have b7 := l1 8
  simp only [k_105_0, k_105_2, am_cat, am_kill, Value.category, List.map_cons, List.map_nil, List.sum_cons, List.sum_nil, Option.toList_some, Option.toList_none, List.cons_append, List.nil_append, List.length_cons, List.length_nil, List.getD_cons_succ, List.getD_cons_zero, List.set_cons_succ, List.set_cons_zero, Nat.reduceAdd, Nat.reduceLT, Nat.reduceLeDiff, Nat.zero_le, Nat.zero_add, Nat.add_zero]
  refine mi_w1 hP hk (by decide) M (by omega) (fun h1 M1 => ?_)
  rw [show (56 : Int32) + (-8) = 48 by decide]
  refine mi_w1 hP hk (by decide) M1 (by simp only [List.length_append]; omega) (fun h2 M2 => ?_)
  rw [show (48 : Int32) + (-8) = 40 by decide]
  refine mi_w1 hP hk (by decide) M2 (by simp only [List.length_append]; omega) (fun h3 M3 => ?_)
  rw [show (40 : Int32) + (-8) = 32 by decide]
  refine mi_w1 hP hk (by decide) M3 (by simp only [List.length_append]; omega) (fun h4 M4 => ?_)
  rw [show (32 : Int32) + (-8) = 24 by decide]
  refine mi_w1 hP hk (by decide) M4 (by simp only [List.length_append]; omega) (fun h5 M5 => ?_)
  rw [show (24 : Int32) + (-8) = 16 by decide]
  refine mi_w1 hP hk (by decide) M5 (by simp only [List.length_append]; omega) (fun h6 M6 => ?_)
  rw [show (16 : Int32) + (-8) = 8 by decide]
  refine mi_w1 hP hk (by decide) M6 (by simp only [List.length_append]; omega) (fun h7 M7 => ?_)
  rw [show (8 : Int32) + (-8) = 0 by decide]
  refine mi_w1 hP hk (by decide) M7 (by simp only [List.length_append]; omega) (fun h8 M8 => ?_)
  have e4 : (0 : Int32) + (-8) < 0 := by decide
  simp only [k_105_3, k_105_4, k_105_37, e4, if_true, am_cat, am_kill, Value.category, List.map_cons, List.map_nil, List.sum_cons, List.sum_nil, Option.toList_some, Option.toList_none, List.cons_append, List.nil_append, List.length_cons, List.length_nil, List.getD_cons_succ, List.getD_cons_zero, List.set_cons_succ, List.set_cons_zero, Nat.reduceAdd, Nat.reduceLT, Nat.reduceLeDiff, Nat.zero_le, Nat.zero_add, Nat.add_zero]
  refine K h8 ?_
  simp only [List.append_assoc] at M8
  exact M8
/-- a word whose letters are known -/
theorem mi_wordc (hP : P.length = 135) (hk : k < 4) {x : Int64} (v : List Int32) (hv : wd x = v) (M : MS P S n0 A0 k t u ar w nl h) (hb : t.length < 2 ^ 29) (K : ∀ h', MS P S n0 A0 k (t ++ v) u ar w nl h' → Q none h') : wp (d + 1) 105 0 [some (.ref 135), some (.long x), none, none] [] h Q := mi_word hP hk M hb (by rw [hv]; exact K)
theorem mi_nothing (hP : P.length = 135) (hk : k < 4) (M : MS P S n0 A0 k t u ar w nl h) (hb : t.length < 2 ^ 29) (K : ∀ h', MS P S n0 A0 k (t ++ sx 4) u ar w 1 h' → Q none h') : wp (d + 2) 113 0 [some (.ref 135)] [] h Q := by
  have hs : sN ≤ 135 := by decide
  simp only [k_113_0, k_113_0N, k_113_1, k_113_4, M.ov hP, am_cat, am_kill, Value.category, List.map_cons, List.map_nil, List.sum_cons, List.sum_nil, Option.toList_some, Option.toList_none, List.cons_append, List.nil_append, List.length_cons, List.length_nil, List.getD_cons_succ, List.getD_cons_zero, List.set_cons_succ, List.set_cons_zero, Nat.reduceAdd, Nat.reduceLT, Nat.reduceLeDiff, Nat.zero_le, Nat.zero_add, Nat.add_zero]
  refine mi_wordc hP hk (sx 4) (by decide) M hb (fun h1 M1 => ?_)
  obtain ⟨n, A, rfl, M2⟩ := mi_nullset (x := 1) hP M1
  simp only [k_113_7, k_113_7N, k_113_8, am_cat, am_kill, Value.category, List.map_cons, List.map_nil, List.sum_cons, List.sum_nil, Option.toList_some, Option.toList_none, List.cons_append, List.nil_append, List.length_cons, List.length_nil, List.getD_cons_succ, List.getD_cons_zero, List.set_cons_succ, List.set_cons_zero, Nat.reduceAdd, Nat.reduceLT, Nat.reduceLeDiff, Nat.zero_le, Nat.zero_add, Nat.add_zero]
  rw [k_113_9 nb1 fb1 ((ogw hP).mpr (by decide)) hs, hw_24 hP]
  simp only [k_113_12]
  exact K _ M2
theorem mi_least (hP : P.length = 135) (hk : k < 4) {x : Int64} (v : List Int32) (hv : wd x ++ (wd 3336403499907170636 ++ wd 21829) = v) (hl : (wd x).length ≤ 8) (M : MS P S n0 A0 k t u ar w nl h) (hb : t.length < 2 ^ 28) (K : ∀ h', MS P S n0 A0 k (t ++ v) u ar w nl h' → Q none h') : wp (d + 2) 117 0 [some (.ref 135), some (.long x), none] [] h Q := by
  subst hv
  simp only [k_117_0, k_117_0N, k_117_1, k_117_2, M.ov hP, am_cat, am_kill, Value.category, List.map_cons, List.map_nil, List.sum_cons, List.sum_nil, Option.toList_some, Option.toList_none, List.cons_append, List.nil_append, List.length_cons, List.length_nil, List.getD_cons_succ, List.getD_cons_zero, List.set_cons_succ, List.set_cons_zero, Nat.reduceAdd, Nat.reduceLT, Nat.reduceLeDiff, Nat.zero_le, Nat.zero_add, Nat.add_zero]
  refine mi_word hP hk M (by omega) (fun h1 M1 => ?_)
  simp only [k_117_5, k_117_5N, k_117_6, k_117_9, M1.ov hP, am_cat, am_kill, Value.category, List.map_cons, List.map_nil, List.sum_cons, List.sum_nil, Option.toList_some, Option.toList_none, List.cons_append, List.nil_append, List.length_cons, List.length_nil, List.getD_cons_succ, List.getD_cons_zero, List.set_cons_succ, List.set_cons_zero, Nat.reduceAdd, Nat.reduceLT, Nat.reduceLeDiff, Nat.zero_le, Nat.zero_add, Nat.add_zero]
  refine mi_word hP hk M1 (by rw [List.length_append]; omega) (fun h2 M2 => ?_)
  simp only [k_117_12, k_117_12N, k_117_13, k_117_16, M2.ov hP, am_cat, am_kill, Value.category, List.map_cons, List.map_nil, List.sum_cons, List.sum_nil, Option.toList_some, Option.toList_none, List.cons_append, List.nil_append, List.length_cons, List.length_nil, List.getD_cons_succ, List.getD_cons_zero, List.set_cons_succ, List.set_cons_zero, Nat.reduceAdd, Nat.reduceLT, Nat.reduceLeDiff, Nat.zero_le, Nat.zero_add, Nat.add_zero]
  have l2 : (wd 3336403499907170636).length = 8 := by decide
  refine mi_word hP hk M2 (by rw [List.length_append, List.length_append, l2]; omega) (fun h3 M3 => ?_)
  simp only [k_117_19, am_cat, am_kill, Value.category, List.map_cons, List.map_nil, List.sum_cons, List.sum_nil, Option.toList_some, Option.toList_none, List.cons_append, List.nil_append, List.length_cons, List.length_nil, List.getD_cons_succ, List.getD_cons_zero, List.set_cons_succ, List.set_cons_zero, Nat.reduceAdd, Nat.reduceLT, Nat.reduceLeDiff, Nat.zero_le, Nat.zero_add, Nat.add_zero]
  refine K h3 ?_
  simp only [List.append_assoc] at M3
  exact M3
/-! number -/
theorem mi_n_one (hP : P.length = 135) (hk : k < 4) {m j : Nat} {v : Int64} (hm : m < 2 ^ 63) (hj : j ≤ 18) (M : MS P S n0 A0 k t u ar w nl h) (hb : t.length < 2 ^ 30) (K : ∀ h', MS P S n0 A0 k (t ++ [nI (48 + m / 10 ^ j % 10)]) u ar w nl h' → wp (d + 1) 118 50 [some (.ref 135), some (.long v), none, some (.long (lN m)), none, some (.long (lN (10 ^ j / 10))), none] [] h' Q) : wp (d + 1) 118 50 [some (.ref 135), some (.long v), none, some (.long (lN m)), none, some (.long (lN (10 ^ j))), none] [] h Q := by
  have hy : ¬ lN (10 ^ j) = 0 := lN_ne0 (p10_pos j) (p10_lt hj)
  have h10 : ¬ (10 : Int64) = 0 := by decide
  have ep : (0 : Int64) < lN (10 ^ j) := (pk_lLT (a := 0) (by decide) (p10_lt hj)).mpr (p10_pos j)
  have e2 : lN m / lN (10 ^ j) = lN (m / 10 ^ j) := pk_lDiv hm (p10_pos j) (p10_lt hj)
  have hq : m / 10 ^ j < 2 ^ 63 := Nat.lt_of_le_of_lt (Nat.div_le_self _ _) hm
  have e3 : lN (m / 10 ^ j) - lN (m / 10 ^ j) / 10 * 10 = lN (m / 10 ^ j % 10) := pk_lRem (b := 10) hq (by decide) (by decide)
  have e4 : (48 : Int64) + lN (m / 10 ^ j % 10) = lN (48 + m / 10 ^ j % 10) := lN_add 48 _
  have e8 : lN (10 ^ j) / 10 = lN (10 ^ j / 10) := pk_lDiv (b := 10) (p10_lt hj) (by decide) (by decide)
  simp only [k_118_50, k_118_52, k_118_53, k_118_54, k_118_57, k_118_57N, k_118_61, k_118_62, k_118_58, k_118_64 hy, k_118_65, k_118_68 h10, k_118_69, k_118_70, k_118_71, lg_cmp_gt, ep, if_true, e2, e3, e4, lN_i, M.ov hP, am_cat, am_kill, Value.category, List.map_cons, List.map_nil, List.sum_cons, List.sum_nil, Option.toList_some, Option.toList_none, List.cons_append, List.nil_append, List.length_cons, List.length_nil, List.getD_cons_succ, List.getD_cons_zero, List.set_cons_succ, List.set_cons_zero, Nat.reduceAdd, Nat.reduceLT, Nat.reduceLeDiff, Nat.zero_le, Nat.zero_add, Nat.add_zero]
  refine mi_put hP hk (chr_nI (by omega)) M hb (fun h1 M1 => ?_)
  simp only [k_118_74, k_118_76, k_118_79 h10, k_118_80, k_118_82, e8, am_cat, am_kill, Value.category, List.map_cons, List.map_nil, List.sum_cons, List.sum_nil, Option.toList_some, Option.toList_none, List.cons_append, List.nil_append, List.length_cons, List.length_nil, List.getD_cons_succ, List.getD_cons_zero, List.set_cons_succ, List.set_cons_zero, Nat.reduceAdd, Nat.reduceLT, Nat.reduceLeDiff, Nat.zero_le, Nat.zero_add, Nat.add_zero]
  exact K h1 M1
theorem mi_n_dig (hP : P.length = 135) (hk : k < 4) {m : Nat} {v : Int64} (hm : m < 2 ^ 63) : ∀ (j : Nat) (h : AH) (t : List Int32), j ≤ 18 → MS P S n0 A0 k t u ar w nl h → t.length + j < 2 ^ 30 → (∀ h', MS P S n0 A0 k (t ++ decK j m) u ar w nl h' → Q none h') → wp (d + 1) 118 50 [some (.ref 135), some (.long v), none, some (.long (lN m)), none, some (.long (lN (10 ^ j))), none] [] h Q := by
  intro j
  induction j with
  | zero =>
    intro h t hj M hb K
    refine mi_n_one hP hk hm hj M (by omega) (fun h1 M1 => ?_)
    have e0 : ¬ (0 : Int64) < lN (10 ^ 0 / 10) := by decide
    simp only [k_118_50, k_118_52, k_118_53, k_118_54, k_118_85, lg_cmp_gt, e0, if_false]
    exact K h1 M1
  | succ j ih =>
    intro h t hj M hb K
    refine mi_n_one hP hk hm hj M (by omega) (fun h1 M1 => ?_)
    rw [show 10 ^ (j + 1) / 10 = 10 ^ j by rw [Nat.pow_succ, Nat.mul_div_cancel _ (by decide)]]
    refine ih h1 _ (by omega) M1 (by rw [List.length_append]; show t.length + 1 + j < _; omega) (fun h2 M2 => ?_)
    exact K h2 (by rw [List.append_assoc] at M2; exact M2)
theorem mi_num (hP : P.length = 135) (hk : k < 4) {v : Int64} (hv : v.toInt.natAbs < 2 ^ 63) (M : MS P S n0 A0 k t u ar w nl h) (hb : t.length < 2 ^ 29) (K : ∀ h', MS P S n0 A0 k (t ++ num v.toInt) u ar w nl h' → Q none h') : wp (d + 1) 118 0 [some (.ref 135), some (.long v), none, none, none, none, none] [] h Q := by
  have hl := ld_le 18 0 v.toInt.natAbs
  have fin : ∀ (h : AH) (t : List Int32), MS P S n0 A0 k t u ar w nl h → t.length < 2 ^ 29 + 1 → (∀ h', MS P S n0 A0 k (t ++ decK (ld 18 0 v.toInt.natAbs) v.toInt.natAbs) u ar w nl h' → Q none h') → wp (d + 1) 118 28 [some (.ref 135), some (.long v), none, some (.long (lN v.toInt.natAbs)), none, some (.long 1), none] [] h Q := by
    intro h t M hb K
    refine (mi_n_lead hv 18 0 rfl).mpr ?_
    exact mi_n_dig hP hk hv _ h t (by omega) M (by omega) K
  simp only [k_118_0, k_118_1, k_118_2, k_118_3, lg_cmp_lt, lt0_toInt, am_cat, am_kill, Value.category, List.map_cons, List.map_nil, List.sum_cons, List.sum_nil, Option.toList_some, Option.toList_none, List.cons_append, List.nil_append, List.length_cons, List.length_nil, List.getD_cons_succ, List.getD_cons_zero, List.set_cons_succ, List.set_cons_zero, Nat.reduceAdd, Nat.reduceLT, Nat.reduceLeDiff, Nat.zero_le, Nat.zero_add, Nat.add_zero]
  unfold num at K
  by_cases c : v.toInt < 0
  · rw [if_pos c] at K
    have e1 := neg_lN c hv
    simp only [c, if_true, k_118_6, k_118_7, k_118_8, k_118_12, k_118_13, k_118_14, k_118_16, k_118_17, k_118_18, k_118_19, k_118_22, k_118_22N, k_118_23, k_118_25, lg_cmp_lt, lt0_toInt, e1, M.ov hP, am_cat, am_kill, Value.category, List.map_cons, List.map_nil, List.sum_cons, List.sum_nil, Option.toList_some, Option.toList_none, List.cons_append, List.nil_append, List.length_cons, List.length_nil, List.getD_cons_succ, List.getD_cons_zero, List.set_cons_succ, List.set_cons_zero, Nat.reduceAdd, Nat.reduceLT, Nat.reduceLeDiff, Nat.zero_le, Nat.zero_add, Nat.add_zero]
    refine mi_put hP hk ⟨by decide, by decide⟩ M (by omega) (fun h1 M1 => ?_)
    refine fin h1 _ M1 (by rw [List.length_append]; show t.length + 1 < _; omega) (fun h2 M2 => ?_)
    exact K h2 (by rw [List.append_assoc] at M2; exact M2)
  · rw [if_neg c, List.nil_append] at K
    have e1 := pos_lN c
    simp only [c, if_false, k_118_11, k_118_12, k_118_13, k_118_14, k_118_16, k_118_17, k_118_18, k_118_19, lg_cmp_lt, lt0_toInt, am_cat, am_kill, Value.category, List.map_cons, List.map_nil, List.sum_cons, List.sum_nil, Option.toList_some, Option.toList_none, List.cons_append, List.nil_append, List.length_cons, List.length_nil, List.getD_cons_succ, List.getD_cons_zero, List.set_cons_succ, List.set_cons_zero, Nat.reduceAdd, Nat.reduceLT, Nat.reduceLeDiff, Nat.zero_le, Nat.zero_add, Nat.add_zero]
    have := fin h t M (by omega) K
    rw [← e1] at this
    exact this
end MX
