/-! BYTES OF INTS. bt, b_.. and s_l are pasted from the kit's laws, the family of Int32 by its bits -/
def bt (x : Int32) (i : Nat) : Bool := x.toBitVec.getLsbD i
theorem b_ext {x y : Int32} (h : ∀ i, i < 32 → bt x i = bt y i) : x = y := Int32.toBitVec_inj.mp (BitVec.eq_of_getLsbD_eq (fun i hi => h i hi))
theorem b_or (x y : Int32) (i : Nat) : bt (x ||| y) i = (bt x i || bt y i) := by unfold bt; rw [Int32.toBitVec_or, BitVec.getLsbD_or]
theorem b_and (x y : Int32) (i : Nat) : bt (x &&& y) i = (bt x i && bt y i) := by unfold bt; rw [Int32.toBitVec_and, BitVec.getLsbD_and]
theorem b_xor (x y : Int32) (i : Nat) : bt (x ^^^ y) i = (bt x i ^^ bt y i) := by unfold bt; rw [Int32.toBitVec_xor, BitVec.getLsbD_xor]
theorem b_big {x : Int32} {i : Nat} (h : 32 ≤ i) : bt x i = false := BitVec.getLsbD_of_ge _ _ h
theorem b_255 (i : Nat) : bt 255 i = decide (i < 8) := by
  rcases Nat.lt_or_ge i 32 with h | h
  · exact (by decide +kernel : ∀ i, i < 32 → bt 255 i = decide (i < 8)) i h
  · rw [b_big h, decide_eq_false (by omega)]
theorem b_m1 : ∀ i, i < 32 → bt (-1) i = true := by decide +kernel
theorem s_l : ∀ n, n < 32 → ((nI n &&& 31).toBitVec.smod 32).toNat = n := by decide +kernel
theorem b_shl (n : Nat) (hn : n < 32) (x : Int32) {i : Nat} (hi : i < 32) : bt (x <<< (nI n &&& 31)) i = (decide (n ≤ i) && bt x (i - n)) := by
  unfold bt
  rw [Int32.toBitVec_shiftLeft]
  show (x.toBitVec <<< ((nI n &&& 31).toBitVec.smod 32).toNat).getLsbD i = _
  rw [s_l n hn, BitVec.getLsbD_shiftLeft]
  rcases Nat.lt_or_ge i n with h | h
  · simp [h, Nat.not_le.mpr h]
  · simp [hi, h, Nat.not_lt.mpr h]
theorem b_sshr (n : Nat) (hn : n < 32) (x : Int32) {i : Nat} (hi : i < 32) : bt (x >>> (nI n &&& 31)) i = if n + i < 32 then bt x (n + i) else bt x 31 := by
  unfold bt
  rw [Int32.toBitVec_shiftRight]
  show (x.toBitVec.sshiftRight ((nI n &&& 31).toBitVec.smod 32).toNat).getLsbD i = _
  rw [s_l n hn, BitVec.getLsbD_sshiftRight, BitVec.msb_eq_getLsbD_last]
  simp [hi]
def Byt (x : Int32) (m : Nat) : Int32 := (x >>> (nI (8 * m) &&& 31)) &&& 255
def Bset (x : Int32) (m : Nat) (c : Int32) : Int32 := (x &&& (((255 : Int32) <<< (nI (8 * m) &&& 31)) ^^^ (-1))) ||| (c <<< (nI (8 * m) &&& 31))
theorem Byt_bt {x : Int32} {m i : Nat} (hm : m < 4) (hi : i < 32) : bt (Byt x m) i = (decide (i < 8) && bt x (8 * m + i)) := by
  unfold Byt
  rw [b_and, b_255, b_sshr (8 * m) (by omega) x hi]
  by_cases c : i < 8
  · rw [if_pos (by omega)]
    simp [c]
  · simp [c]
theorem asc_bt {c : Int32} (hc : asc c) {i : Nat} (h : 7 ≤ i) (hi : i < 32) : bt c i = false := by
  obtain ⟨n, hn, rfl⟩ := nI_of (x := c) (by rw [Int32.lt_iff_toInt_lt]; have := hc.1; show ¬ _ < (0 : Int32).toInt; rw [Int32.toInt_zero]; omega)
  have h2 := hc.2
  rw [nI_toInt hn] at h2
  have key : ∀ n, n < 128 → ∀ i, i < 32 → 7 ≤ i → bt (nI n) i = false := by decide +kernel
  exact key n (by omega) i hi h
theorem Byt_or {x c : Int32} {m m' : Nat} (hm : m < 4) (hm' : m' < 4) (hc : asc c) : Byt (x ||| (c <<< (nI (8 * m) &&& 31))) m' = if m' = m then Byt x m ||| c else Byt x m' := by
  apply b_ext
  intro i hi
  rw [Byt_bt hm' hi]
  by_cases c8 : i < 8
  · rw [b_or, b_shl (8 * m) (by omega) c (by omega)]
    by_cases e : m' = m
    · subst e
      rw [if_pos rfl, b_or, Byt_bt hm hi, Nat.add_sub_cancel_left]
      simp [c8]
    · rw [if_neg e, Byt_bt hm' hi]
      by_cases e2 : m' < m
      · simp [c8, show ¬ 8 * m ≤ 8 * m' + i by omega]
      · rw [asc_bt hc (i := 8 * m' + i - 8 * m) (by omega) (by omega)]
        simp
  · by_cases e : m' = m
    · rw [if_pos e, b_or (Byt x m) c i, Byt_bt hm hi, asc_bt hc (by omega) hi]
      simp [c8]
    · rw [if_neg e, Byt_bt hm' hi]
      simp [c8]
theorem Byt_set {x c : Int32} {m m' : Nat} (hm : m < 4) (hm' : m' < 4) (hc : asc c) : Byt (Bset x m c) m' = if m' = m then c else Byt x m' := by
  apply b_ext
  intro i hi
  unfold Bset
  rw [Byt_bt hm' hi]
  by_cases c8 : i < 8
  · rw [b_or, b_and, b_xor, b_m1 _ (by omega), b_shl (8 * m) (by omega) c (by omega), b_shl (8 * m) (by omega) 255 (by omega), b_255]
    by_cases e : m' = m
    · subst e
      rw [if_pos rfl, Nat.add_sub_cancel_left]
      simp [c8]
    · rw [if_neg e, Byt_bt hm' hi]
      by_cases e2 : m' < m
      · simp [c8, show ¬ 8 * m ≤ 8 * m' + i by omega]
      · rw [asc_bt hc (i := 8 * m' + i - 8 * m) (by omega) (by omega)]
        simp [c8, show ¬ 8 * m' + i - 8 * m < 8 by omega]
  · by_cases e : m' = m
    · rw [if_pos e, asc_bt hc (by omega) hi]
      simp [c8]
    · rw [if_neg e, Byt_bt hm' hi]
      simp [c8]
theorem Byt_0 {m : Nat} (hm : m < 4) : Byt 0 m = 0 := by
  match m, hm with
  | 0, _ => decide
  | 1, _ => decide
  | 2, _ => decide
  | 3, _ => decide
theorem or_0 (c : Int32) : (0 : Int32) ||| c = c := by
  apply b_ext
  intro i hi
  rw [b_or]
  have : bt 0 i = false := BitVec.getLsbD_zero
  rw [this]
  rfl
section BY
variable {P S : AH} {n : Nat → Int32} {A : Nat → Nat → Int32} {d : Nat} {Q : Option Value → AH → Prop}
theorem sp_textAt (hP : P.length = 135) {i : Nat} (hi : i < 16800) : wp d 143 0 [some (.ref 135), some (.int (nI i))] [] (wr P S n A) Q ↔ Q (some (.int (Byt (A 5 (i / 4)) (i % 4)))) (wr P S n A) := by
  have h4 : ¬ (4 : Int32) = 0 := by decide
  have e1 : nI i / 4 = nI (i / 4) := pk_div (d := 4) (by omega) (by decide) (by decide)
  have e2 : nI i - nI (i / 4) * 4 = nI (i % 4) := by rw [← e1]; exact pk_rem (d := 4) (by omega) (by decide) (by decide)
  have e3 : (8 : Int32) * nI (i % 4) = nI (8 * (i % 4)) := nI_mul 8 _
  simp only [k_143_0, k_143_0N, k_143_4, k_143_5, k_143_1, k_143_6 h4, ogw hP, fw_15 hP, e1, am_cat, am_kill, Value.category, List.map_cons, List.map_nil, List.sum_cons, List.sum_nil, Option.toList_some, Option.toList_none, List.cons_append, List.nil_append, List.length_cons, List.length_nil, List.getD_cons_succ, List.getD_cons_zero, List.set_cons_succ, List.set_cons_zero, Nat.reduceAdd, Nat.reduceLT, Nat.reduceLeDiff, Nat.zero_le, Nat.zero_add, Nat.add_zero]
  rw [k_143_7 (ow_5 hP (by omega)), aw_5 hP (by omega)]
  simp only [k_143_8, k_143_10, k_143_11, k_143_12 h4, k_143_13, k_143_14, k_143_15, k_143_18, k_143_19, e1, e2, e3, am_cat, am_kill, Value.category, List.map_cons, List.map_nil, List.sum_cons, List.sum_nil, Option.toList_some, Option.toList_none, List.cons_append, List.nil_append, List.length_cons, List.length_nil, List.getD_cons_succ, List.getD_cons_zero, List.set_cons_succ, List.set_cons_zero, Nat.reduceAdd, Nat.reduceLT, Nat.reduceLeDiff, Nat.zero_le, Nat.zero_add, Nat.add_zero]
  exact Iff.rfl
theorem sp_setText (hP : P.length = 135) {i : Nat} {c : Int32} (hi : i < 16800) : wp d 137 0 [some (.ref 135), some (.int (nI i)), some (.int c)] [] (wr P S n A) Q ↔ Q none (wr P S n (uA A 5 (i / 4) (Bset (A 5 (i / 4)) (i % 4) c))) := by
  have h4 : ¬ (4 : Int32) = 0 := by decide
  have hs : sN ≤ 141 := by decide
  have e1 : nI i / 4 = nI (i / 4) := pk_div (d := 4) (by omega) (by decide) (by decide)
  have e2 : nI i - nI (i / 4) * 4 = nI (i % 4) := by rw [← e1]; exact pk_rem (d := 4) (by omega) (by decide) (by decide)
  have e3 : (8 : Int32) * nI (i % 4) = nI (8 * (i % 4)) := nI_mul 8 _
  simp only [k_137_0, k_137_0N, k_137_4, k_137_5, k_137_1, k_137_6 h4, k_137_7, k_137_7N, k_137_11, k_137_12, k_137_8, k_137_13 h4, ogw hP, fw_15 hP, e1, am_cat, am_kill, Value.category, List.map_cons, List.map_nil, List.sum_cons, List.sum_nil, Option.toList_some, Option.toList_none, List.cons_append, List.nil_append, List.length_cons, List.length_nil, List.getD_cons_succ, List.getD_cons_zero, List.set_cons_succ, List.set_cons_zero, Nat.reduceAdd, Nat.reduceLT, Nat.reduceLeDiff, Nat.zero_le, Nat.zero_add, Nat.add_zero]
  rw [k_137_14 (ow_5 hP (by omega)), aw_5 hP (by omega)]
  simp only [k_137_15, k_137_18, k_137_20, k_137_21, k_137_22 h4, k_137_23, k_137_24, k_137_25, k_137_26, k_137_27, k_137_28, k_137_29, k_137_31, k_137_32, k_137_33 h4, k_137_34, k_137_35, k_137_36, e1, e2, e3, am_cat, am_kill, Value.category, List.map_cons, List.map_nil, List.sum_cons, List.sum_nil, Option.toList_some, Option.toList_none, List.cons_append, List.nil_append, List.length_cons, List.length_nil, List.getD_cons_succ, List.getD_cons_zero, List.set_cons_succ, List.set_cons_zero, Nat.reduceAdd, Nat.reduceLT, Nat.reduceLeDiff, Nat.zero_le, Nat.zero_add, Nat.add_zero]
  rw [k_137_37 (ow_5 hP (by omega)) hs, sw_5 hP (by omega)]
  simp only [k_137_38]
  exact Iff.rfl
theorem sp_bodyAt (hP : P.length = 135) {t k : Nat} (ht : t < 20) (hk : k < 300) : wp d 128 0 [some (.ref 135), some (.int (nI t)), some (.int (nI k))] [] (wr P S n A) Q ↔ Q (some (.int (Byt (A 4 (t * 75 + k / 4)) (k % 4)))) (wr P S n A) := by
  have h4 : ¬ (4 : Int32) = 0 := by decide
  have e0 : nI t * 75 = nI (t * 75) := nI_mul t 75
  have e1 : nI k / 4 = nI (k / 4) := pk_div (d := 4) (by omega) (by decide) (by decide)
  have e2 : nI k - nI (k / 4) * 4 = nI (k % 4) := by rw [← e1]; exact pk_rem (d := 4) (by omega) (by decide) (by decide)
  have e3 : (8 : Int32) * nI (k % 4) = nI (8 * (k % 4)) := nI_mul 8 _
  simp only [k_128_0, k_128_0N, k_128_4, k_128_5, k_128_7, k_128_8, k_128_9, k_128_1, k_128_10 h4, k_128_11, ogw hP, fw_14 hP, e0, e1, nI_add, am_cat, am_kill, Value.category, List.map_cons, List.map_nil, List.sum_cons, List.sum_nil, Option.toList_some, Option.toList_none, List.cons_append, List.nil_append, List.length_cons, List.length_nil, List.getD_cons_succ, List.getD_cons_zero, List.set_cons_succ, List.set_cons_zero, Nat.reduceAdd, Nat.reduceLT, Nat.reduceLeDiff, Nat.zero_le, Nat.zero_add, Nat.add_zero]
  rw [k_128_12 (ow_4 hP (by omega)), aw_4 hP (by omega)]
  simp only [k_128_13, k_128_15, k_128_16, k_128_17 h4, k_128_18, k_128_19, k_128_20, k_128_23, k_128_24, e1, e2, e3, am_cat, am_kill, Value.category, List.map_cons, List.map_nil, List.sum_cons, List.sum_nil, Option.toList_some, Option.toList_none, List.cons_append, List.nil_append, List.length_cons, List.length_nil, List.getD_cons_succ, List.getD_cons_zero, List.set_cons_succ, List.set_cons_zero, Nat.reduceAdd, Nat.reduceLT, Nat.reduceLeDiff, Nat.zero_le, Nat.zero_add, Nat.add_zero]
  exact Iff.rfl
end BY
/-- the text's characters -/
def Tx (A : Nat → Nat → Int32) (i : Nat) : Int32 := Byt (A 5 (i / 4)) (i % 4)
theorem Tx_set {A : Nat → Nat → Int32} {i j : Nat} {c : Int32} (hc : asc c) : Tx (uA A 5 (i / 4) (Bset (A 5 (i / 4)) (i % 4) c)) j = if j = i then c else Tx A j := by
  unfold Tx
  by_cases e : j / 4 = i / 4
  · rw [e, uA_s, Byt_set (Nat.mod_lt _ (by decide)) (Nat.mod_lt _ (by decide)) hc]
    by_cases e2 : j = i
    · rw [if_pos e2, if_pos (by rw [e2])]
    · rw [if_neg e2, if_neg (by omega)]
  · rw [uA_m e, if_neg (fun q => e (by rw [q]))]
