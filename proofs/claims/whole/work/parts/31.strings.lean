/-! STRING CONSTANTS -/
def asc (c : Int32) : Prop := 0 ≤ c.toInt ∧ c.toInt < 128
def Str (h : AH) (r : Nat) (bs : List Int32) : Prop := ∃ v, r < sN ∧ v < sN ∧ h[r]? = some (.inr 9, [.ref v, .int 0]) ∧ h[v]? = some (.inl .byte, bs.map Value.int) ∧ (∀ b ∈ bs, asc b) ∧ bs.length < 2 ^ 20
theorem sp_slen {d : Nat} {h : AH} {r : Nat} {bs : List Int32} {Q : Option Value → AH → Prop} (H : Str h r bs) : wp (d + 1) 148 0 [some (.ref r)] [] h Q ↔ Q (some (.int (nI bs.length))) h := by
  obtain ⟨v, -, -, h1, h2, -, h4⟩ := H
  have e1 : narrow .byte (.int (0 : Int32)) = .int 0 := by decide
  have e2 : fits .byte (.int (0 : Int32)) = true := by decide
  have e3 := sc_shr0 (n := bs.length) (by omega)
  have e4 : (1 : Int32) = 0 ↔ False := by decide
  simp only [k_148_0, k_148_0N, k_148_4, k_148_5, k_148_5N, k_148_9, k_148_10, k_148_1, k_148_6, k_149_3, k_149_6, k_149_6N, k_149_10, k_149_13, k_149_14, k_149_0, k_149_7, okG_iff h1, okV_iff h1, fld_of h1, isA_iff h2, alen_of h2, e1, e2, e4, if_false, List.length_map, am_cat, am_kill, Value.category, List.map_cons, List.map_nil, List.sum_cons, List.sum_nil, Option.toList_some, Option.toList_none, List.cons_append, List.nil_append, List.length_cons, List.length_nil, List.getD_cons_succ, List.getD_cons_zero, List.set_cons_succ, List.set_cons_zero, Nat.reduceAdd, Nat.reduceLT, Nat.reduceLeDiff, Nat.zero_le, Nat.zero_add, Nat.add_zero]
  rw [show Int32.ofNat bs.length = nI bs.length from rfl, e3]
theorem asc_and {c : Int32} (h : asc c) : c &&& 255 = c := by
  obtain ⟨n, hn, rfl⟩ := nI_of (x := c) (by rw [Int32.lt_iff_toInt_lt]; have := h.1; show ¬ _ < (0 : Int32).toInt; rw [Int32.toInt_zero]; omega)
  have h2 := h.2
  rw [nI_toInt hn] at h2
  have key : ∀ n, n < 128 → nI n &&& 255 = nI n := by decide +kernel
  exact key n (by omega)
theorem asc_chr {c : Int32} (h : asc c) : chr c := ⟨h.1, by have := h.2; omega⟩
theorem sp_charAt {d : Nat} {h : AH} {r n : Nat} {bs : List Int32} {Q : Option Value → AH → Prop} (H : Str h r bs) (hn : n < bs.length) : wp (d + 3) 150 0 [some (.ref r), some (.int (nI n))] [] h Q ↔ Q (some (.int bs[n])) h := by
  obtain ⟨v, -, -, h1, h2, h3, h4⟩ := H
  have e4 : (1 : Int32) = 0 ↔ False := by decide
  have e5 : narrow .boolean (.int (1 : Int32)) = .int 1 := by decide
  have e6 : fits .boolean (.int (1 : Int32)) = true := by decide
  have hp : ¬ nI n < 0 := nI_pos (by omega)
  have hl : nI n < nI bs.length := nI_lt hn (by omega)
  have hc := nI_clamp (n := n) (by omega)
  have ha : asc bs[n] := h3 _ (List.getElem_mem hn)
  have e1 : okA am_isB h v (nI n) := ⟨.byte, bs.map Value.int, h2, rfl, hp, by rw [hc, List.length_map]; exact hn⟩
  have e2 : (bs.map Value.int).getD n .null = .int bs[n] := by rw [List.getD_eq_getElem?_getD, List.getElem?_map, List.getElem?_eq_getElem hn]; rfl
  have e7 : Int32.ofNat bs.length = nI bs.length := rfl
  have e8 : fits .char (.int bs[n]) = true := by
    have := ha.1
    have := ha.2
    show (0 ≤ bs[n] && bs[n] ≤ 65535) = true
    simp only [Bool.and_eq_true, decide_eq_true_eq, Int32.le_iff_toInt_le]
    exact ⟨by rw [Int32.toInt_zero]; omega, by rw [show (65535 : Int32).toInt = 65535 by decide]; omega⟩
  simp only [k_150_0, k_150_0N, k_150_4, k_150_7, k_150_7N, k_150_11, k_150_15, k_150_16, k_150_16N, k_150_20, k_150_24, k_150_1, k_150_8, k_150_12, k_150_17, k_151_3, k_151_6, k_151_6N, k_151_10, k_151_13, k_151_14, k_151_17, k_151_18, k_151_0, k_151_7, k_155_0, k_155_1, k_155_1N, k_155_2, k_155_6, k_155_6N, k_155_7, k_155_9, k_155_12, k_155_13, k_155_14, k_155_3, k_154_0, k_154_1, k_154_8, k_154_9, k_154_2, k_154_5, k_159_0, k_159_1, k_159_4, k_159_5, k_159_6, k_159_9, k_159_9N, k_159_10, k_159_11, k_159_16, k_159_17, okG_iff h1, okV_iff h1, fld_of h1, isA_iff h2, alen_of h2, e4, e5, e6, e7, hp, hl, if_false, if_true, List.length_map, am_cat, am_kill, Value.category, List.map_cons, List.map_nil, List.sum_cons, List.sum_nil, Option.toList_some, Option.toList_none, List.cons_append, List.nil_append, List.length_cons, List.length_nil, List.getD_cons_succ, List.getD_cons_zero, List.set_cons_succ, List.set_cons_zero, Nat.reduceAdd, Nat.reduceLT, Nat.reduceLeDiff, Nat.zero_le, Nat.zero_add, Nat.add_zero]
  simp only [k_155_8 e1, arr_of h2, hc, e2, k_155_9, k_155_12, k_155_13, asc_and ha, i2c_chr (asc_chr ha), k_155_14 (nar_chr (asc_chr ha)) e8, k_150_15 (nar_chr (asc_chr ha)) e8, am_cat, am_kill, Value.category, List.map_cons, List.map_nil, List.sum_cons, List.sum_nil, Option.toList_some, Option.toList_none, List.cons_append, List.nil_append, List.length_cons, List.length_nil, List.getD_cons_succ, List.getD_cons_zero, List.set_cons_succ, List.set_cons_zero, Nat.reduceAdd, Nat.reduceLT, Nat.reduceLeDiff, Nat.zero_le, Nat.zero_add, Nat.add_zero]

theorem Str.kept {h h' : AH} {r a ar : Nat} {bs : List Int32} (S : Str h r bs) (F : Frm h h' a ar) (ha : sN ≤ a) (har : sN ≤ ar) : Str h' r bs := by
  obtain ⟨v, q1, q2, h1, h2, h3⟩ := S
  exact ⟨v, q1, q2, by rw [F.2 r (lt_of_get h1) (by omega) (by omega)]; exact h1, by rw [F.2 v (lt_of_get h2) (by omega) (by omega)]; exact h2, h3⟩
theorem App.step {h : AH} {a ar : Nat} {t : List Int32} {cs : List Value} {u w : List Int32} {Q : AH → Prop} (K : App h a ar t cs (u ++ w) Q) {h1 : AH} {ar1 : Nat} {cs1 : List Value} (E : Ext h h1 a ar cs ar1 cs1 (t.length + u.length)) : App h1 a ar1 (t ++ u) cs1 w Q := by
  intro h2 ar2 cs2 C2 E2
  refine K h2 ar2 cs2 (by rw [← List.append_assoc]; exact C2) ?_
  have := E.trans E2 (by rw [List.length_append]; omega)
  rw [List.length_append] at this ⊢
  rw [← Nat.add_assoc]
  exact this
/-- put(String) from place n on -/
theorem sp_puts_loop {d : Nat} {a r : Nat} {bs : List Int32} {Q : Option Value → AH → Prop} : ∀ (k n : Nat) (h : AH) (ar : Nat) (t : List Int32) (cs : List Value), n + k = bs.length → Chs h a ar t cs → Str h r bs → t.length + k < 2 ^ 20 → App h a ar t cs (bs.drop n) (Q none) → wp (d + 4) 35 2 [some (.ref a), some (.ref r), some (.int (nI n))] [] h Q := by
  intro k
  induction k with
  | zero =>
    intro n h ar t cs hn H S hb K
    obtain ⟨v, -, -, s1, s2, -, s4⟩ := id S
    have hnl : ¬ nI n < nI bs.length := nI_nlt (by omega) (by omega)
    simp only [k_35_2, k_35_3, k_35_3N, k_35_7, k_35_25, k_35_4, okV_iff s1, sp_slen S, hnl, if_false, am_cat, am_kill, Value.category, List.map_cons, List.map_nil, List.sum_cons, List.sum_nil, Option.toList_some, Option.toList_none, List.cons_append, List.nil_append, List.length_cons, List.length_nil, List.getD_cons_succ, List.getD_cons_zero, List.set_cons_succ, List.set_cons_zero, Nat.reduceAdd, Nat.reduceLT, Nat.reduceLeDiff, Nat.zero_le, Nat.zero_add, Nat.add_zero]
    rw [List.drop_eq_nil_of_le (by omega)] at K
    exact K h ar cs (by rw [List.append_nil]; exact H) Ext.rf
  | succ k ih =>
    intro n h ar t cs hn H S hb K
    obtain ⟨v, -, -, s1, s2, s3, s4⟩ := id S
    have hlt : n < bs.length := by omega
    have hnl : nI n < nI bs.length := nI_lt hlt (by omega)
    obtain ⟨h1, h2, h3, h4, h5, h6, h7, h9⟩ := id H
    simp only [k_35_2, k_35_3, k_35_3N, k_35_7, k_35_10, k_35_10N, k_35_11, k_35_11N, k_35_12, k_35_4, k_35_13, k_35_16, okV_iff s1, okV_iff h1, sp_slen S, sp_charAt S hlt, hnl, if_true, am_cat, am_kill, Value.category, List.map_cons, List.map_nil, List.sum_cons, List.sum_nil, Option.toList_some, Option.toList_none, List.cons_append, List.nil_append, List.length_cons, List.length_nil, List.getD_cons_succ, List.getD_cons_zero, List.set_cons_succ, List.set_cons_zero, Nat.reduceAdd, Nat.reduceLT, Nat.reduceLeDiff, Nat.zero_le, Nat.zero_add, Nat.add_zero]
    rw [List.drop_eq_getElem_cons hlt] at K
    refine sp_put H (asc_chr (s3 _ (List.getElem_mem hlt))) (by omega) (fun h' ar' cs' H' E' => ?_)
    simp only [k_35_19, k_35_22, nI_1, am_cat, am_kill, Value.category, List.map_cons, List.map_nil, List.sum_cons, List.sum_nil, Option.toList_some, Option.toList_none, List.cons_append, List.nil_append, List.length_cons, List.length_nil, List.getD_cons_succ, List.getD_cons_zero, List.set_cons_succ, List.set_cons_zero, Nat.reduceAdd, Nat.reduceLT, Nat.reduceLeDiff, Nat.zero_le, Nat.zero_add, Nat.add_zero]
    exact ih (n + 1) h' ar' _ cs' (by omega) H' (S.kept E'.1 h5 h6) (by rw [List.length_append]; simp; omega) (App.step (u := [bs[n]]) K E')
theorem sp_puts {d : Nat} {a r ar : Nat} {bs t : List Int32} {cs : List Value} {h : AH} {o : Option Value} {Q : Option Value → AH → Prop} (H : Chs h a ar t cs) (S : Str h r bs) (hb : t.length + bs.length < 2 ^ 20) (K : App h a ar t cs bs (Q none)) : wp (d + 4) 35 0 [some (.ref a), some (.ref r), o] [] h Q := by
  simp only [k_35_0, k_35_1, am_cat, am_kill, Value.category, List.map_cons, List.map_nil, List.sum_cons, List.sum_nil, Option.toList_some, Option.toList_none, List.cons_append, List.nil_append, List.length_cons, List.length_nil, List.getD_cons_succ, List.getD_cons_zero, List.set_cons_succ, List.set_cons_zero, Nat.reduceAdd, Nat.reduceLT, Nat.reduceLeDiff, Nat.zero_le, Nat.zero_add, Nat.add_zero]
  exact sp_puts_loop bs.length 0 h ar t cs (by omega) H S hb K

/-- put(Chars, from, end) from place n on -/
theorem sp_putc_loop {d : Nat} {a a2 : Nat} {t2 : List Int32} {f e : Int32} {Q : Option Value → AH → Prop} : ∀ (k n : Nat) (h : AH) (ar ar2 : Nat) (t : List Int32) (cs cs2 : List Value), e = nI (n + k) → n + k ≤ t2.length → Chs h a ar t cs → Chs h a2 ar2 t2 cs2 → a ≠ a2 → ar ≠ ar2 → t.length + k < 2 ^ 20 → App h a ar t cs ((t2.drop n).take k) (Q none) → wp (d + 2) 60 3 [some (.ref a), some (.ref a2), some (.int f), some (.int e), some (.int (nI n))] [] h Q := by
  intro k
  induction k with
  | zero =>
    intro n h ar ar2 t cs cs2 he hk H H2 n1 n2 hb K
    have h27 := H2.2.2.2.2.2.2.1
    have h23 := H2.2.2.1
    have hnl : ¬ nI n < e := by rw [he]; exact nI_nlt (Nat.le_refl _) (by omega)
    simp only [k_60_3, k_60_5, k_60_6, k_60_25, hnl, if_false, am_cat, am_kill, Value.category, List.map_cons, List.map_nil, List.sum_cons, List.sum_nil, Option.toList_some, Option.toList_none, List.cons_append, List.nil_append, List.length_cons, List.length_nil, List.getD_cons_succ, List.getD_cons_zero, List.set_cons_succ, List.set_cons_zero, Nat.reduceAdd, Nat.reduceLT, Nat.reduceLeDiff, Nat.zero_le, Nat.zero_add, Nat.add_zero]
    exact K h ar cs (by simpa using H) Ext.rf
  | succ k ih =>
    intro n h ar ar2 t cs cs2 he hk H H2 n1 n2 hb K
    obtain ⟨h1, h2, h3, h4, h5, h6, h7, h9⟩ := id H
    obtain ⟨b1, b2, b3, b4, b5, b6, b7, b9⟩ := id H2
    have hlt : n < t2.length := by omega
    have hnl : nI n < e := by rw [he]; exact nI_lt (by omega) (by omega)
    have hp : ¬ nI n < 0 := nI_pos (by omega)
    have hg : t2.getD n (-1) = t2[n] := by rw [List.getD_eq_getElem?_getD, List.getElem?_eq_getElem hlt]; rfl
    simp only [k_60_3, k_60_5, k_60_6, k_60_9, k_60_9N, k_60_10, k_60_10N, k_60_11, k_60_13, k_60_16, okV_iff h1, okV_iff b1, sp_get H2, hnl, hp, if_true, if_false, nI_clamp (show n < 2 ^ 31 by omega), hg, am_cat, am_kill, Value.category, List.map_cons, List.map_nil, List.sum_cons, List.sum_nil, Option.toList_some, Option.toList_none, List.cons_append, List.nil_append, List.length_cons, List.length_nil, List.getD_cons_succ, List.getD_cons_zero, List.set_cons_succ, List.set_cons_zero, Nat.reduceAdd, Nat.reduceLT, Nat.reduceLeDiff, Nat.zero_le, Nat.zero_add, Nat.add_zero]
    rw [List.drop_eq_getElem_cons hlt, List.take_succ_cons] at K
    obtain ⟨q1, q2⟩ := H.ne H2
    refine sp_put H (b9 _ (List.getElem_mem hlt)) (by omega) (fun h' ar' cs' H' E' => ?_)
    simp only [k_60_19, k_60_22, nI_1, am_cat, am_kill, Value.category, List.map_cons, List.map_nil, List.sum_cons, List.sum_nil, Option.toList_some, Option.toList_none, List.cons_append, List.nil_append, List.length_cons, List.length_nil, List.getD_cons_succ, List.getD_cons_zero, List.set_cons_succ, List.set_cons_zero, Nat.reduceAdd, Nat.reduceLT, Nat.reduceLeDiff, Nat.zero_le, Nat.zero_add, Nat.add_zero]
    have n3 : ar' ≠ ar2 := by
      rcases E'.2.1 with e1 | e1
      · rw [e1]; exact n2
      · have := lt_of_get b2
        omega
    exact ih (n + 1) h' ar' ar2 _ cs' cs2 (by rw [he]; congr 1; omega) (by omega) H' (H2.kept E'.1 n1.symm q2.symm q1.symm n2.symm) n1 n3 (by rw [List.length_append]; simp; omega) (App.step (u := [t2[n]]) K E')
theorem sp_putr {d : Nat} {a a2 ar ar2 : Nat} {t t2 : List Int32} {cs cs2 : List Value} {h : AH} {f e : Nat} {o : Option Value} {Q : Option Value → AH → Prop} (H : Chs h a ar t cs) (H2 : Chs h a2 ar2 t2 cs2) (n1 : a ≠ a2) (n2 : ar ≠ ar2) (hf : f ≤ e) (he : e ≤ t2.length) (hb : t.length + e < 2 ^ 20) (K : App h a ar t cs ((t2.drop f).take (e - f)) (Q none)) : wp (d + 2) 60 0 [some (.ref a), some (.ref a2), some (.int (nI f)), some (.int (nI e)), o] [] h Q := by
  simp only [k_60_0, k_60_1, am_cat, am_kill, Value.category, List.map_cons, List.map_nil, List.sum_cons, List.sum_nil, Option.toList_some, Option.toList_none, List.cons_append, List.nil_append, List.length_cons, List.length_nil, List.getD_cons_succ, List.getD_cons_zero, List.set_cons_succ, List.set_cons_zero, Nat.reduceAdd, Nat.reduceLT, Nat.reduceLeDiff, Nat.zero_le, Nat.zero_add, Nat.add_zero]
  exact sp_putc_loop (e - f) f h ar ar2 t cs cs2 (by congr 1; omega) (by omega) H H2 n1 n2 (by omega) K
theorem sp_putc {d : Nat} {a a2 ar ar2 : Nat} {t t2 : List Int32} {cs cs2 : List Value} {h : AH} {Q : Option Value → AH → Prop} (H : Chs h a ar t cs) (H2 : Chs h a2 ar2 t2 cs2) (n1 : a ≠ a2) (n2 : ar ≠ ar2) (hb : t.length + t2.length < 2 ^ 20) (K : App h a ar t cs t2 (Q none)) : wp (d + 3) 59 0 [some (.ref a), some (.ref a2)] [] h Q := by
  have h1 := H.1
  have b1 := H2.1
  simp only [k_59_0, k_59_0N, k_59_1, k_59_1N, k_59_2, k_59_3, k_59_3N, k_59_4, k_59_7, okG_iff b1, fld_of b1, okV_iff h1, am_cat, am_kill, Value.category, List.map_cons, List.map_nil, List.sum_cons, List.sum_nil, Option.toList_some, Option.toList_none, List.cons_append, List.nil_append, List.length_cons, List.length_nil, List.getD_cons_succ, List.getD_cons_zero, List.set_cons_succ, List.set_cons_zero, Nat.reduceAdd, Nat.reduceLT, Nat.reduceLeDiff, Nat.zero_le, Nat.zero_add, Nat.add_zero]
  refine sp_putr (f := 0) H H2 n1 n2 (Nat.zero_le _) (Nat.le_refl _) hb ?_
  rw [List.drop_zero, Nat.sub_zero, List.take_length]
  intro h' ar' cs' H' E'
  simp only [k_59_10, am_cat, am_kill, Value.category, List.map_cons, List.map_nil, List.sum_cons, List.sum_nil, Option.toList_some, Option.toList_none, List.cons_append, List.nil_append, List.length_cons, List.length_nil, List.getD_cons_succ, List.getD_cons_zero, List.set_cons_succ, List.set_cons_zero, Nat.reduceAdd, Nat.reduceLT, Nat.reduceLeDiff, Nat.zero_le, Nat.zero_add, Nat.add_zero]
  exact K h' ar' cs' H' E'
/-- putBlanks from place n on -/
theorem sp_bl_loop {d : Nat} {a : Nat} {e : Int32} {Q : Option Value → AH → Prop} : ∀ (k n : Nat) (h : AH) (ar : Nat) (t : List Int32) (cs : List Value), e = nI (n + k) → n + k < 2 ^ 20 → Chs h a ar t cs → t.length + k < 2 ^ 20 → App h a ar t cs (List.replicate k 32) (Q none) → wp (d + 2) 81 2 [some (.ref a), some (.int e), some (.int (nI n))] [] h Q := by
  intro k
  induction k with
  | zero =>
    intro n h ar t cs he hk H hb K
    have hnl : ¬ nI n < e := by rw [he]; exact nI_nlt (Nat.le_refl _) (by omega)
    simp only [k_81_2, k_81_3, k_81_4, k_81_19, hnl, if_false, am_cat, am_kill, Value.category, List.map_cons, List.map_nil, List.sum_cons, List.sum_nil, Option.toList_some, Option.toList_none, List.cons_append, List.nil_append, List.length_cons, List.length_nil, List.getD_cons_succ, List.getD_cons_zero, List.set_cons_succ, List.set_cons_zero, Nat.reduceAdd, Nat.reduceLT, Nat.reduceLeDiff, Nat.zero_le, Nat.zero_add, Nat.add_zero]
    exact K h ar cs (by simpa using H) Ext.rf
  | succ k ih =>
    intro n h ar t cs he hk H hb K
    have h1 := H.1
    have hnl : nI n < e := by rw [he]; exact nI_lt (by omega) (by omega)
    simp only [k_81_2, k_81_3, k_81_4, k_81_7, k_81_7N, k_81_8, k_81_10, okV_iff h1, hnl, if_true, am_cat, am_kill, Value.category, List.map_cons, List.map_nil, List.sum_cons, List.sum_nil, Option.toList_some, Option.toList_none, List.cons_append, List.nil_append, List.length_cons, List.length_nil, List.getD_cons_succ, List.getD_cons_zero, List.set_cons_succ, List.set_cons_zero, Nat.reduceAdd, Nat.reduceLT, Nat.reduceLeDiff, Nat.zero_le, Nat.zero_add, Nat.add_zero]
    refine sp_put H ⟨by decide, by decide⟩ (by omega) (fun h' ar' cs' H' E' => ?_)
    simp only [k_81_13, k_81_16, nI_1, am_cat, am_kill, Value.category, List.map_cons, List.map_nil, List.sum_cons, List.sum_nil, Option.toList_some, Option.toList_none, List.cons_append, List.nil_append, List.length_cons, List.length_nil, List.getD_cons_succ, List.getD_cons_zero, List.set_cons_succ, List.set_cons_zero, Nat.reduceAdd, Nat.reduceLT, Nat.reduceLeDiff, Nat.zero_le, Nat.zero_add, Nat.add_zero]
    exact ih (n + 1) h' ar' _ cs' (by rw [he]; congr 1; omega) (by omega) H' (by rw [List.length_append]; simp; omega) (App.step (u := [32]) K E')
theorem sp_bl {d : Nat} {a ar k : Nat} {t : List Int32} {cs : List Value} {h : AH} {o : Option Value} {Q : Option Value → AH → Prop} (H : Chs h a ar t cs) (hb : t.length + k < 2 ^ 20) (K : App h a ar t cs (List.replicate k 32) (Q none)) : wp (d + 2) 81 0 [some (.ref a), some (.int (nI k)), o] [] h Q := by
  simp only [k_81_0, k_81_1, am_cat, am_kill, Value.category, List.map_cons, List.map_nil, List.sum_cons, List.sum_nil, Option.toList_some, Option.toList_none, List.cons_append, List.nil_append, List.length_cons, List.length_nil, List.getD_cons_succ, List.getD_cons_zero, List.set_cons_succ, List.set_cons_zero, Nat.reduceAdd, Nat.reduceLT, Nat.reduceLeDiff, Nat.zero_le, Nat.zero_add, Nat.add_zero]
  exact sp_bl_loop k 0 h ar t cs (by congr 1; omega) (by omega) H hb K
