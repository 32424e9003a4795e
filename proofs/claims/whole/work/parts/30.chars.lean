/-! CHARS -/
def chr (c : Int32) : Prop := 0 ≤ c.toInt ∧ c.toInt < 65536
def Chs (h : AH) (a ar : Nat) (t : List Int32) (cs : List Value) : Prop := h[a]? = some (.inr 1, [.ref ar, .int (nI t.length)]) ∧ h[ar]? = some (.inl .char, cs) ∧ t.length ≤ cs.length ∧ (∀ (j : Nat) (c : Int32), t[j]? = some c → cs[j]? = some (.int c)) ∧ sN ≤ a ∧ sN ≤ ar ∧ cs.length < 2 ^ 28 ∧ ∀ c ∈ t, chr c
theorem okG_of {h : AH} {a ci k : Nat} {fs : List Value} (ha : h[a]? = some (.inr ci, fs)) (hk : k < fs.length) : okG h a ci k := ⟨fs, ha, hk⟩
theorem okV_of {h : AH} {a ci : Nat} {fs : List Value} (ha : h[a]? = some (.inr ci, fs)) : okV h a ci := ⟨fs, ha⟩
theorem fld_of {h : AH} {a k : Nat} {t : FieldType ⊕ Nat} {fs : List Value} (ha : h[a]? = some (t, fs)) : fld h a k = fs.getD k .null := by simp only [fld, ha]
theorem arr_of {h : AH} {a : Nat} {j : Int32} {t : FieldType ⊕ Nat} {fs : List Value} (ha : h[a]? = some (t, fs)) : arr h a j = fs.getD j.toNatClampNeg .null := by simp only [arr, ha]
theorem alen_of {h : AH} {a : Nat} {t : FieldType ⊕ Nat} {fs : List Value} (ha : h[a]? = some (t, fs)) : alen h a = fs.length := by simp only [alen, ha]
theorem hput_of {h : AH} {a k : Nat} {v : Value} {t : FieldType ⊕ Nat} {fs : List Value} (ha : h[a]? = some (t, fs)) : hput h a k v = h.set a (t, fs.set k v) := by simp only [hput, ha]
theorem hast_of {h : AH} {a : Nat} {j : Int32} {v : Value} {t : FieldType ⊕ Nat} {fs : List Value} (ha : h[a]? = some (t, fs)) : hast h a j v = h.set a (t, fs.set j.toNatClampNeg v) := by simp only [hast, ha]
theorem okG_iff {h : AH} {a ci k : Nat} {fs : List Value} (ha : h[a]? = some (.inr ci, fs)) : okG h a ci k ↔ k < fs.length := ⟨fun ⟨_, h1, h2⟩ => by rw [ha] at h1; cases h1; exact h2, fun h => ⟨fs, ha, h⟩⟩
theorem okV_iff {h : AH} {a ci : Nat} {fs : List Value} (ha : h[a]? = some (.inr ci, fs)) : okV h a ci ↔ True := ⟨fun _ => trivial, fun _ => ⟨fs, ha⟩⟩
theorem isA_iff {h : AH} {a : Nat} {t : FieldType} {fs : List Value} (ha : h[a]? = some (.inl t, fs)) : isA h a ↔ True := ⟨fun _ => trivial, fun _ => ⟨t, fs, ha⟩⟩
theorem okA_iff {ok : FieldType → Bool} {h : AH} {a : Nat} {j : Int32} {t : FieldType} {fs : List Value} (ha : h[a]? = some (.inl t, fs)) : okA ok h a j ↔ (ok t = true ∧ ¬ j < 0 ∧ j.toNatClampNeg < fs.length) := ⟨fun ⟨_, _, h1, h2⟩ => by rw [ha] at h1; cases h1; exact h2, fun h => ⟨t, fs, ha, h⟩⟩
theorem sp_len {d : Nat} {h : AH} {a ar : Nat} {t : List Int32} {cs : List Value} {Q : Option Value → AH → Prop} (H : Chs h a ar t cs) : wp d 10 0 [some (.ref a)] [] h Q ↔ Q (some (.int (nI t.length))) h := by
  obtain ⟨h1, -⟩ := H
  simp only [k_10_0, k_10_0N, k_10_4, k_10_1, okG_iff h1, fld_of h1, List.length_cons, List.length_nil, List.getD_cons_succ, List.getD_cons_zero, Nat.reduceAdd, Nat.reduceLT]
theorem sp_get {d : Nat} {h : AH} {a ar : Nat} {t : List Int32} {cs : List Value} {i : Int32} {Q : Option Value → AH → Prop} (H : Chs h a ar t cs) : wp d 16 0 [some (.ref a), some (.int i)] [] h Q ↔ Q (some (.int (if i < 0 then -1 else t.getD i.toNatClampNeg (-1)))) h := by
  obtain ⟨h1, h2, h3, h4, -, -, h7, -⟩ := H
  simp only [k_16_0, k_16_1, k_16_4, k_16_5, k_16_5N, k_16_9, k_16_12, k_16_12N, k_16_16, k_16_17, k_16_18, k_16_21, k_16_22, k_16_6, k_16_13, okG_iff h1, fld_of h1, List.length_cons, List.length_nil, List.getD_cons_succ, List.getD_cons_zero, Nat.reduceAdd, Nat.reduceLT]
  by_cases hi : i < 0
  · simp only [hi, if_true]
  · obtain ⟨n, hn, rfl⟩ := nI_of hi
    simp only [hi, if_false]
    by_cases hl : n < t.length
    · have h8 := nI_lt hl (by omega)
      have e1 : okA am_isC h ar (nI n) := ⟨.char, cs, h2, rfl, hi, by rw [nI_clamp hn]; omega⟩
      have e2 : cs.getD n .null = .int t[n] := by rw [List.getD_eq_getElem?_getD, h4 n t[n] (by simp [hl])]; rfl
      simp only [h8, if_true, k_16_17 e1, arr_of h2, nI_clamp hn, e2, k_16_18, k_16_22]
      rw [List.getD_eq_getElem?_getD, List.getElem?_eq_getElem hl]
      rfl
    · have h8 := nI_nlt (Nat.not_lt.mp hl) hn
      simp only [h8, if_false, nI_clamp hn]
      rw [List.getD_eq_getElem?_getD, List.getElem?_eq_none (by omega)]
      rfl
theorem sp_empty {d : Nat} {h : AH} {a ar : Nat} {t : List Int32} {cs : List Value} {Q : Option Value → AH → Prop} (H : Chs h a ar t cs) : wp d 18 0 [some (.ref a)] [] h Q ↔ Q none (h.set a (.inr 1, [.ref ar, .int 0])) := by
  obtain ⟨h1, h2, h3, h4, h5, h6, h7, h8⟩ := H
  simp only [k_18_0, k_18_0N, k_18_1, k_18_5, k_18_2, okG_iff h1, fld_of h1, hput_of h1, h5, List.length_cons, List.length_nil, List.getD_cons_succ, List.getD_cons_zero, Nat.reduceAdd, Nat.reduceLT, List.set_cons_succ, List.set_cons_zero]
/-- what a write to the cells a and ar leaves -/
def Frm (h h' : AH) (a ar : Nat) : Prop := h.length ≤ h'.length ∧ ∀ b, b < h.length → b ≠ a → b ≠ ar → h'[b]? = h[b]?
theorem lt_of_get {h : AH} {a : Nat} {x : AC} (ha : h[a]? = some x) : a < h.length := (List.getElem?_eq_some_iff.mp ha).1
theorem get_set_eq {h : AH} {a : Nat} {x y : AC} (ha : h[a]? = some y) : (h.set a x)[a]? = some x := by
  rw [List.getElem?_set, if_pos rfl, if_pos (lt_of_get ha)]
theorem get_set_ne {h : AH} {a b : Nat} {x : AC} (hab : a ≠ b) : (h.set a x)[b]? = h[b]? := by
  rw [List.getElem?_set, if_neg hab]
theorem get_app {h : AH} {a : Nat} {x y : AC} (ha : h[a]? = some y) : (h ++ [x])[a]? = some y := by
  rw [List.getElem?_append_left (lt_of_get ha)]
  exact ha
theorem get_top {h : AH} {x : AC} : (h ++ [x])[h.length]? = some x := by simp
theorem cs_set {t : List Int32} {cs : List Value} {c : Int32} (h3 : t.length < cs.length) (h4 : ∀ (j : Nat) (c : Int32), t[j]? = some c → cs[j]? = some (.int c)) : ∀ (j : Nat) (c' : Int32), (t ++ [c])[j]? = some c' → (cs.set t.length (.int c))[j]? = some (.int c') := by
  intro j c' hj
  rw [List.getElem?_set]
  rw [List.getElem?_append] at hj
  by_cases hjl : j < t.length
  · rw [if_pos hjl] at hj
    rw [if_neg (by omega)]
    exact h4 j c' hj
  · rw [if_neg hjl] at hj
    have hz : j - t.length < 1 := (List.getElem?_eq_some_iff.mp hj).1
    have hz : j = t.length := by omega
    subst hz
    rw [Nat.sub_self] at hj
    rw [if_pos rfl, if_pos h3]
    cases hj
    rfl
theorem nar_chr {c : Int32} (hc : chr c) : narrow .char (.int c) = .int c := by
  show Value.int c.toUInt32.toUInt16.toUInt32.toInt32 = .int c
  rw [lg_i2c_small hc.1 hc.2]
theorem i2c_chr {c : Int32} (hc : chr c) : (c.toUInt32 % 65536).toInt32 = c := lg_i2c_word hc.1 hc.2
/-- the end of put: the place is there -/
theorem sp_put_end {d : Nat} {h : AH} {a ar : Nat} {t : List Int32} {cs : List Value} {c : Int32} {o : Option Value} {Q : Option Value → AH → Prop} (H : Chs h a ar t cs) (hc : chr c) (hl : t.length < cs.length) : wp d 11 42 [some (.ref a), some (.int c), o] [] h Q ↔ Q none ((h.set ar (.inl .char, cs.set t.length (.int c))).set a (.inr 1, [.ref ar, .int (nI (t.length + 1))])) := by
  obtain ⟨h1, h2, h3, h4, h5, h6, h7, h8⟩ := H
  have hne : ar ≠ a := fun e => by rw [e, h1] at h2; cases h2
  have hn : t.length < 2 ^ 31 := by omega
  have e1 : okA am_isC h ar (nI t.length) := ⟨.char, cs, h2, rfl, nI_pos hn, by rw [nI_clamp hn]; exact hl⟩
  have g1 : (h.set ar (.inl .char, cs.set t.length (.int c)))[a]? = some (.inr 1, [.ref ar, .int (nI t.length)]) := by rw [get_set_ne hne]; exact h1
  simp only [k_11_42, k_11_42N, k_11_46, k_11_46N, k_11_50, k_11_51, k_11_43, k_11_47, okG_iff h1, fld_of h1, List.length_cons, List.length_nil, List.getD_cons_succ, List.getD_cons_zero, Nat.reduceAdd, Nat.reduceLT, i2c_chr hc]
  simp only [k_11_52 e1 h6, hast_of h2, nI_clamp hn, nar_chr hc]
  simp only [k_11_53, k_11_53N, k_11_54, k_11_54i, k_11_58, k_11_59, k_11_63, k_11_55, k_11_60, okG_iff g1, fld_of g1, hput_of g1, h5, List.length_cons, List.length_nil, List.getD_cons_succ, List.getD_cons_zero, Nat.reduceAdd, Nat.reduceLT, List.set_cons_succ, List.set_cons_zero, nI_1]
/-- how the cells of a Chars go on: n is its length at the end -/
def Ext (h h' : AH) (a ar : Nat) (cs : List Value) (ar' : Nat) (cs' : List Value) (n : Nat) : Prop := Frm h h' a ar ∧ (ar' = ar ∨ h.length ≤ ar') ∧ h'.length + cs.length ≤ h.length + cs'.length ∧ am_sz h' + 2 * cs.length ≤ am_sz h + 2 * cs'.length ∧ cs.length ≤ cs'.length ∧ (cs'.length ≤ cs.length ∨ cs'.length ≤ 2 * n)
theorem Ext.rf {h : AH} {a ar : Nat} {cs : List Value} {n : Nat} : Ext h h a ar cs ar cs n := ⟨⟨Nat.le_refl _, fun _ _ _ _ => rfl⟩, Or.inl rfl, Nat.le_refl _, Nat.le_refl _, Nat.le_refl _, Or.inl (Nat.le_refl _)⟩
theorem Ext.trans {h h1 h2 : AH} {a ar ar1 ar2 : Nat} {cs cs1 cs2 : List Value} {n1 n2 : Nat} (e1 : Ext h h1 a ar cs ar1 cs1 n1) (e2 : Ext h1 h2 a ar1 cs1 ar2 cs2 n2) (hn : n1 ≤ n2) : Ext h h2 a ar cs ar2 cs2 n2 := by
  obtain ⟨⟨f1, f2⟩, p1, p2, p3, p4, p5⟩ := e1
  obtain ⟨⟨g1, g2⟩, q1, q2, q3, q4, q5⟩ := e2
  refine ⟨⟨by omega, fun b hb h1 h2 => ?_⟩, by omega, by omega, by omega, by omega, by omega⟩
  rw [g2 b (by omega) h1 (by omega)]
  exact f2 b hb h1 h2
/-- what is asked behind u was put at the end -/
def App (h : AH) (a ar : Nat) (t : List Int32) (cs : List Value) (u : List Int32) (Q : AH → Prop) : Prop := ∀ (h' : AH) (ar' : Nat) (cs' : List Value), Chs h' a ar' (t ++ u) cs' → Ext h h' a ar cs ar' cs' (t.length + u.length) → Q h'
theorem nI_mul (a b : Nat) : nI a * nI b = nI (a * b) := (Int32.ofNat_mul a b).symm
theorem sz_set {h : AH} {r : Nat} {t : FieldType ⊕ Nat} {vs vs' : List Value} (hr : h[r]? = some (t, vs)) (hl : vs'.length = vs.length) : am_sz (h.set r (t, vs')) = am_sz h := am_sz_set hr hl
theorem sp_put {d : Nat} {h : AH} {a ar : Nat} {t : List Int32} {cs : List Value} {c : Int32} {o : Option Value} {Q : Option Value → AH → Prop} (H : Chs h a ar t cs) (hc : chr c) (hb : t.length < 2 ^ 20) (K : App h a ar t cs [c] (Q none)) : wp (d + 1) 11 0 [some (.ref a), some (.int c), o] [] h Q := by
  obtain ⟨h1, h2, h3, h4, h5, h6, h7, h9⟩ := id H
  have hne : ar ≠ a := fun e => by rw [e, h1] at h2; cases h2
  have hn : t.length < 2 ^ 31 := by omega
  simp only [k_11_0, k_11_0N, k_11_4, k_11_4N, k_11_8, k_11_9, k_11_1, k_11_5, okG_iff h1, fld_of h1, isA_iff h2, alen_of h2, List.length_cons, List.length_nil, List.getD_cons_succ, List.getD_cons_zero, Nat.reduceAdd, Nat.reduceLT]
  have fin : ∀ (g : AH) (br : Nat) (ds : List Value) (o : Option Value), Chs g a br t ds → t.length < ds.length → Ext h g a ar cs br ds (t.length + 1) → wp (d + 1) 11 42 [some (.ref a), some (.int c), o] [] g Q := by
    intro g br ds o G hl E
    rw [sp_put_end G hc hl]
    obtain ⟨g1, g2, g3, g4, g5, g6, g7, g9⟩ := id G
    have gne : br ≠ a := fun e => by rw [e, g1] at g2; cases g2
    have k1 : (g.set br (.inl .char, ds.set t.length (.int c)))[a]? = some (.inr 1, [.ref br, .int (nI t.length)]) := by rw [get_set_ne gne]; exact g1
    have k2 : ((g.set br (.inl .char, ds.set t.length (.int c))).set a (.inr 1, [.ref br, .int (nI (t.length + 1))]))[br]? = some (.inl .char, ds.set t.length (.int c)) := by rw [get_set_ne gne.symm]; exact get_set_eq g2
    refine K _ br (ds.set t.length (.int c)) ⟨by rw [List.length_append]; exact get_set_eq k1, k2, by rw [List.length_append, List.length_set]; exact hl, cs_set hl g4, g5, g6, by rw [List.length_set]; exact g7, fun x hx => by
      rcases List.mem_append.mp hx with hx | hx
      · exact g9 x hx
      · rw [List.mem_singleton.mp hx]; exact hc⟩ ?_
    refine Ext.trans E (n2 := t.length + [c].length) ⟨⟨by simp, fun b hb b1 b2 => ?_⟩, Or.inl rfl, by simp, ?_, by simp, Or.inl (by simp)⟩ (Nat.le_refl _)
    · rw [get_set_ne (Ne.symm b1), get_set_ne (Ne.symm b2)]
    · rw [sz_set (vs' := [.ref br, .int (nI (t.length + 1))]) k1 rfl, sz_set g2 (List.length_set ..), List.length_set]
      exact Nat.le_refl _
  by_cases hl : t.length = cs.length
  · rw [if_pos (by rw [hl]; rfl)]
    have en : (2 : Int32) * nI t.length + 1 = nI (2 * t.length + 1) := by rw [show (2 : Int32) = nI 2 from rfl, nI_mul, nI_1]
    have hm : 2 * t.length + 1 < 2 ^ 31 := by omega
    simp only [k_11_12, k_11_13, k_11_13N, k_11_17, k_11_18, k_11_19, k_11_14, okG_iff h1, fld_of h1, List.length_cons, List.length_nil, List.getD_cons_succ, List.getD_cons_zero, Nat.reduceAdd, Nat.reduceLT, en]
    rw [k_11_20 (nI_pos hm) (by rw [nI_clamp hm]; omega), nI_clamp hm]
    have g1 := get_app (x := ((.inl .char, List.replicate (2 * t.length + 1) (.int 0)) : AC)) h1
    have g2 := get_app (x := ((.inl .char, List.replicate (2 * t.length + 1) (.int 0)) : AC)) h2
    have g3 := get_top (h := h) (x := ((.inl .char, List.replicate (2 * t.length + 1) (.int 0)) : AC))
    have hsN : sN ≤ h.length := Nat.le_of_lt (Nat.lt_of_le_of_lt h5 (lt_of_get h1))
    have hla : a ≠ h.length := Nat.ne_of_lt (lt_of_get h1)
    have hlr : ar ≠ h.length := Nat.ne_of_lt (lt_of_get h2)
    simp only [k_11_22, k_11_22N, k_11_23, k_11_23N, k_11_27, k_11_28, k_11_28N, k_11_29, k_11_30, k_11_30N, k_11_24, k_11_31, okG_iff g1, fld_of g1, List.length_cons, List.length_nil, List.getD_cons_succ, List.getD_cons_zero, Nat.reduceAdd, Nat.reduceLT]
    rw [k_11_34 g2 g3 (by decide) rfl (nI_pos hn) (by decide) (by decide) (by rw [nI_clamp hn]; show 0 + t.length ≤ _; omega) (by rw [nI_clamp hn, List.length_replicate]; show 0 + t.length ≤ _; omega) hsN]
    rw [show (0 : Int32).toNatClampNeg = 0 from rfl, nI_clamp hn]
    have lcp : (am_cp cs (List.replicate (2 * t.length + 1) (.int 0)) 0 0 t.length).length = 2 * t.length + 1 := by
      rw [am_cp_len (by omega) (by rw [List.length_replicate]; omega), List.length_replicate]
    have gcp : ∀ (j : Nat) (c : Int32), t[j]? = some c → (am_cp cs (List.replicate (2 * t.length + 1) (.int 0)) 0 0 t.length)[j]? = some (.int c) := by
      intro j c hj
      have hjl : j < t.length := (List.getElem?_eq_some_iff.mp hj).1
      rw [am_cp_get (by omega) (by rw [List.length_replicate]; omega), if_pos ⟨by omega, by omega⟩, show 0 + (j - 0) = j by omega]
      exact h4 j c hj
    generalize am_cp cs (List.replicate (2 * t.length + 1) (.int 0)) 0 0 t.length = cp at lcp gcp
    have c1 : ((h ++ [((.inl .char, List.replicate (2 * t.length + 1) (.int 0)) : AC)]).set h.length (.inl .char, cp))[a]? = some (.inr 1, [.ref ar, .int (nI t.length)]) := by rw [get_set_ne hla.symm]; exact g1
    have c3 : ((h ++ [((.inl .char, List.replicate (2 * t.length + 1) (.int 0)) : AC)]).set h.length (.inl .char, cp))[h.length]? = some (.inl .char, cp) := get_set_eq g3
    simp only [k_11_37, k_11_37N, k_11_38, k_11_38N, k_11_39, okG_iff c1, hput_of c1, h5, List.length_cons, List.length_nil, Nat.reduceAdd, Nat.reduceLT, List.set_cons_zero]
    refine fin _ h.length cp _ ⟨get_set_eq c1, by rw [get_set_ne hla]; exact c3, by omega, gcp, h5, hsN, by omega, h9⟩ (by omega) ⟨⟨by simp, fun b hb b1 b2 => ?_⟩, Or.inr (Nat.le_refl _), by simp; omega, ?_, by omega, Or.inr (by omega)⟩
    · rw [get_set_ne (Ne.symm b1), get_set_ne (Ne.symm (Nat.ne_of_lt hb)), List.getElem?_append_left hb]
    · rw [sz_set (vs' := [.ref h.length, .int (nI t.length)]) c1 rfl, sz_set g3 (by rw [lcp, List.length_replicate]), am_sz_app, List.length_replicate]
      omega
  · rw [if_neg (fun e => hl (by rwa [show Int32.ofNat cs.length = nI cs.length from rfl, nI_eq (by omega) (by omega)] at e))]
    exact fin h ar cs o H (by omega) Ext.rf

theorem Chs.kept {h h' : AH} {a ar a2 ar2 : Nat} {t2 : List Int32} {cs2 : List Value} (H : Chs h a2 ar2 t2 cs2) (F : Frm h h' a ar) (n1 : a2 ≠ a) (n2 : a2 ≠ ar) (n3 : ar2 ≠ a) (n4 : ar2 ≠ ar) : Chs h' a2 ar2 t2 cs2 := by
  obtain ⟨h1, h2, h3⟩ := H
  exact ⟨by rw [F.2 a2 (lt_of_get h1) n1 n2]; exact h1, by rw [F.2 ar2 (lt_of_get h2) n3 n4]; exact h2, h3⟩
/-- two of them that share nothing -/
def Apart (h : AH) (a ar a2 ar2 : Nat) : Prop := a ≠ a2 ∧ ar ≠ ar2
theorem Chs.ne {h : AH} {a ar a2 ar2 : Nat} {t t2 : List Int32} {cs cs2 : List Value} (H : Chs h a ar t cs) (H2 : Chs h a2 ar2 t2 cs2) : a ≠ ar2 ∧ ar ≠ a2 := by
  refine ⟨fun e => ?_, fun e => ?_⟩
  · have := H.1
    rw [e, H2.2.1] at this
    cases this
  · have := H.2.1
    rw [e, H2.1] at this
    cases this
