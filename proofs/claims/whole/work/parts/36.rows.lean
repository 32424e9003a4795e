/-! TYPES AND THEIR ROWS -/
def spl (τ : Ty) : Nat := τ.1 + (if τ.2.1 = 79 then 2 else 1)
theorem sp_spl {d : Nat} {h : AH} {p : Nat} {τ : Ty} {Q : Option Value → AH → Prop} (h1 : h[p]? = some (tyc τ)) : wp d 17 0 [some (.ref p)] [] h Q ↔ Q (some (.int (nI (spl τ)))) h := by
  unfold tyc at h1
  simp only [k_17_0, k_17_0N, k_17_4, k_17_4N, k_17_8, k_17_10, k_17_13, k_17_14, k_17_17, k_17_18, k_17_19, k_17_1, k_17_5, okG_iff h1, fld_of h1, am_cat, am_kill, Value.category, List.map_cons, List.map_nil, List.sum_cons, List.sum_nil, Option.toList_some, Option.toList_none, List.cons_append, List.nil_append, List.length_cons, List.length_nil, List.getD_cons_succ, List.getD_cons_zero, List.set_cons_succ, List.set_cons_zero, Nat.reduceAdd, Nat.reduceLT, Nat.reduceLeDiff, Nat.zero_le, Nat.zero_add, Nat.add_zero]
  unfold spl
  by_cases hq : τ.2.1 = 79
  · simp only [hq, if_true, k_17_0, k_17_0N, k_17_4, k_17_4N, k_17_8, k_17_10, k_17_13, k_17_14, k_17_17, k_17_18, k_17_19, k_17_1, k_17_5, am_cat, am_kill, Value.category, List.map_cons, List.map_nil, List.sum_cons, List.sum_nil, Option.toList_some, Option.toList_none, List.cons_append, List.nil_append, List.length_cons, List.length_nil, List.getD_cons_succ, List.getD_cons_zero, List.set_cons_succ, List.set_cons_zero, Nat.reduceAdd, Nat.reduceLT, Nat.reduceLeDiff, Nat.zero_le, Nat.zero_add, Nat.add_zero]
    rw [show (2 : Int32) = nI 2 from rfl, nI_add]
  · simp only [hq, if_false, k_17_0, k_17_0N, k_17_4, k_17_4N, k_17_8, k_17_10, k_17_13, k_17_14, k_17_17, k_17_18, k_17_19, k_17_1, k_17_5, am_cat, am_kill, Value.category, List.map_cons, List.map_nil, List.sum_cons, List.sum_nil, Option.toList_some, Option.toList_none, List.cons_append, List.nil_append, List.length_cons, List.length_nil, List.getD_cons_succ, List.getD_cons_zero, List.set_cons_succ, List.set_cons_zero, Nat.reduceAdd, Nat.reduceLT, Nat.reduceLeDiff, Nat.zero_le, Nat.zero_add, Nat.add_zero]
    rw [nI_1]
theorem sp_brackets {d : Nat} {h : AH} {p : Nat} {τ : Ty} {Q : Option Value → AH → Prop} (h1 : h[p]? = some (tyc τ)) : wp d 41 0 [some (.ref p)] [] h Q ↔ Q (some (.int (nI τ.1))) h := by
  unfold tyc at h1
  simp only [k_41_0, k_41_0N, k_41_4, k_41_1, okG_iff h1, fld_of h1, am_cat, am_kill, Value.category, List.map_cons, List.map_nil, List.sum_cons, List.sum_nil, Option.toList_some, Option.toList_none, List.cons_append, List.nil_append, List.length_cons, List.length_nil, List.getD_cons_succ, List.getD_cons_zero, List.set_cons_succ, List.set_cons_zero, Nat.reduceAdd, Nat.reduceLT, Nat.reduceLeDiff, Nat.zero_le, Nat.zero_add, Nat.add_zero]
theorem sp_letter {d : Nat} {h : AH} {p : Nat} {τ : Ty} {Q : Option Value → AH → Prop} (h1 : h[p]? = some (tyc τ)) : wp d 46 0 [some (.ref p)] [] h Q ↔ Q (some (.int τ.2.1)) h := by
  unfold tyc at h1
  simp only [k_46_0, k_46_0N, k_46_4, k_46_1, okG_iff h1, fld_of h1, am_cat, am_kill, Value.category, List.map_cons, List.map_nil, List.sum_cons, List.sum_nil, Option.toList_some, Option.toList_none, List.cons_append, List.nil_append, List.length_cons, List.length_nil, List.getD_cons_succ, List.getD_cons_zero, List.set_cons_succ, List.set_cons_zero, Nat.reduceAdd, Nat.reduceLT, Nat.reduceLeDiff, Nat.zero_le, Nat.zero_add, Nat.add_zero]
theorem sp_cnum {d : Nat} {h : AH} {p : Nat} {τ : Ty} {Q : Option Value → AH → Prop} (h1 : h[p]? = some (tyc τ)) : wp d 53 0 [some (.ref p)] [] h Q ↔ Q (some (.int (nI τ.2.2))) h := by
  unfold tyc at h1
  simp only [k_53_0, k_53_0N, k_53_4, k_53_1, okG_iff h1, fld_of h1, am_cat, am_kill, Value.category, List.map_cons, List.map_nil, List.sum_cons, List.sum_nil, Option.toList_some, Option.toList_none, List.cons_append, List.nil_append, List.length_cons, List.length_nil, List.getD_cons_succ, List.getD_cons_zero, List.set_cons_succ, List.set_cons_zero, Nat.reduceAdd, Nat.reduceLT, Nat.reduceLeDiff, Nat.zero_le, Nat.zero_add, Nat.add_zero]
theorem sp_single {d : Nat} {h : AH} {p : Nat} {τ : Ty} {x : Int32} {Q : Option Value → AH → Prop} (h1 : h[p]? = some (tyc τ)) (hb : τ.1 < 2 ^ 31) : wp d 56 0 [some (.ref p), some (.int x)] [] h Q ↔ Q (some (.int (if τ.1 = 0 ∧ τ.2.1 = x then 1 else 0))) h := by
  unfold tyc at h1
  have e0 : nI τ.1 = 0 ↔ τ.1 = 0 := nI_eq (b := 0) hb (by omega)
  simp only [k_56_0, k_56_0N, k_56_4, k_56_7, k_56_7N, k_56_11, k_56_12, k_56_15, k_56_16, k_56_19, k_56_20, k_56_1, k_56_8, okG_iff h1, fld_of h1, nb0, nb1, fb0, fb1, e0, am_cat, am_kill, Value.category, List.map_cons, List.map_nil, List.sum_cons, List.sum_nil, Option.toList_some, Option.toList_none, List.cons_append, List.nil_append, List.length_cons, List.length_nil, List.getD_cons_succ, List.getD_cons_zero, List.set_cons_succ, List.set_cons_zero, Nat.reduceAdd, Nat.reduceLT, Nat.reduceLeDiff, Nat.zero_le, Nat.zero_add, Nat.add_zero]
  by_cases c1 : τ.1 = 0 <;> by_cases c2 : τ.2.1 = x <;> simp only [c1, c2, if_true, if_false, and_self, true_and, and_true, false_and, and_false]
/-- the heap has grown by no more than n cells of m places, and nothing old has changed -/
def Grow (h g : AH) (n m : Nat) : Prop := h.length ≤ g.length ∧ g.length ≤ h.length + n ∧ am_sz g ≤ am_sz h + m ∧ ∀ b, b < h.length → g[b]? = h[b]?
theorem Grow.rf {h : AH} : Grow h h 0 0 := ⟨Nat.le_refl _, Nat.le_refl _, Nat.le_refl _, fun _ _ => rfl⟩
theorem Grow.app {h g : AH} {n m : Nat} (G : Grow h g n m) (x : AC) : Grow h (g ++ [x]) (n + 1) (m + x.2.length) := by
  obtain ⟨g1, g2, g3, g4⟩ := G
  refine ⟨by simp; omega, by simp; omega, by rw [am_sz_app]; omega, fun b hb => ?_⟩
  rw [List.getElem?_append_left (by omega)]
  exact g4 b hb
theorem Grow.set {h g : AH} {n m r : Nat} {t : FieldType ⊕ Nat} {vs vs' : List Value} (G : Grow h g n m) (hr : h.length ≤ r) (h1 : g[r]? = some (t, vs)) (hl : vs'.length = vs.length) : Grow h (g.set r (t, vs')) n m := by
  obtain ⟨g1, g2, g3, g4⟩ := G
  refine ⟨by simp; omega, by simp; omega, by rw [sz_set h1 hl]; exact g3, fun b hb => ?_⟩
  rw [get_set_ne (by omega)]
  exact g4 b hb
theorem Grow.le {h g : AH} {n m n' m' : Nat} (G : Grow h g n m) (h1 : n ≤ n') (h2 : m ≤ m') : Grow h g n' m' := ⟨G.1, by have := G.2.1; omega, by have := G.2.2.1; omega, G.2.2.2⟩
/-- a row of types: the object a, its array at q -/
def Row (h : AH) (a q : Nat) (l : List Ty) : Prop := ∃ vs, h[a]? = some (.inr 2, [.ref q, .int (nI l.length)]) ∧ h[q]? = some (.inl (.object "TestEmitter$Type"), vs) ∧ vs.length = 4 ∧ l.length ≤ 4 ∧ sN ≤ a ∧ sN ≤ q ∧ ∀ (j : Nat) (τ : Ty), l[j]? = some τ → ∃ p, vs[j]? = some (.ref p) ∧ h[p]? = some (tyc τ) ∧ sN ≤ p
theorem sp_rsize {d : Nat} {h : AH} {a q : Nat} {l : List Ty} {Q : Option Value → AH → Prop} (R : Row h a q l) : wp d 20 0 [some (.ref a)] [] h Q ↔ Q (some (.int (nI l.length))) h := by
  obtain ⟨vs, h1, -⟩ := R
  simp only [k_20_0, k_20_0N, k_20_4, k_20_1, okG_iff h1, fld_of h1, am_cat, am_kill, Value.category, List.map_cons, List.map_nil, List.sum_cons, List.sum_nil, Option.toList_some, Option.toList_none, List.cons_append, List.nil_append, List.length_cons, List.length_nil, List.getD_cons_succ, List.getD_cons_zero, List.set_cons_succ, List.set_cons_zero, Nat.reduceAdd, Nat.reduceLT, Nat.reduceLeDiff, Nat.zero_le, Nat.zero_add, Nat.add_zero]
theorem sp_rget {d : Nat} {h : AH} {a q j : Nat} {l : List Ty} {Q : Option Value → AH → Prop} (R : Row h a q l) (hj : j < l.length) (K : ∀ p, h[p]? = some (tyc l[j]) → sN ≤ p → Q (some (.ref p)) h) : wp d 38 0 [some (.ref a), some (.int (nI j))] [] h Q := by
  obtain ⟨vs, h1, h2, h3, h4, h5, h6, h7⟩ := R
  obtain ⟨p, p1, p2, p3⟩ := h7 j l[j] (by simp [hj])
  have hc := nI_clamp (n := j) (by omega)
  have e1 : okA am_isO h q (nI j) := ⟨_, vs, h2, rfl, nI_pos (by omega), by rw [hc]; omega⟩
  simp only [k_38_0, k_38_0N, k_38_4, k_38_1, okG_iff h1, fld_of h1, am_cat, am_kill, Value.category, List.map_cons, List.map_nil, List.sum_cons, List.sum_nil, Option.toList_some, Option.toList_none, List.cons_append, List.nil_append, List.length_cons, List.length_nil, List.getD_cons_succ, List.getD_cons_zero, List.set_cons_succ, List.set_cons_zero, Nat.reduceAdd, Nat.reduceLT, Nat.reduceLeDiff, Nat.zero_le, Nat.zero_add, Nat.add_zero]
  rw [k_38_5 e1, arr_of h2, hc, List.getD_eq_getElem?_getD, p1]
  show wp d _ 6 _ [.ref p] h Q
  simp only [k_38_6, k_38_6N]
  exact K p p2 p3
theorem sp_rinit {d : Nat} {h : AH} {a : Nat} {v0 v1 : Value} {Q : Option Value → AH → Prop} (h1 : h[a]? = some (.inr 2, [v0, v1])) (hs : sN ≤ a) : wp (d + 1) 3 0 [some (.ref a)] [] h Q ↔ Q none ((h ++ [((.inl (.object "TestEmitter$Type"), List.replicate 4 .null) : AC)]).set a (.inr 2, [.ref h.length, v1])) := by
  have e1 : ¬ (4 : Int32) < 0 := by decide
  have e2 : (4 : Int32).toNatClampNeg * 4 ≤ 536870912 := by decide
  have e3 : (4 : Int32).toNatClampNeg = 4 := rfl
  have g1 := get_app (x := ((.inl (.object "TestEmitter$Type"), List.replicate 4 .null) : AC)) h1
  simp only [k_3_0, k_3_0N, k_3_4, k_3_4N, k_3_5, k_3_1, am_cat, am_kill, Value.category, List.map_cons, List.map_nil, List.sum_cons, List.sum_nil, Option.toList_some, Option.toList_none, List.cons_append, List.nil_append, List.length_cons, List.length_nil, List.getD_cons_succ, List.getD_cons_zero, List.set_cons_succ, List.set_cons_zero, Nat.reduceAdd, Nat.reduceLT, Nat.reduceLeDiff, Nat.zero_le, Nat.zero_add, Nat.add_zero]
  rw [k_3_6 e1 e2, e3]
  simp only [k_3_12, k_3_9, okG_iff g1, hput_of g1, hs, am_cat, am_kill, Value.category, List.map_cons, List.map_nil, List.sum_cons, List.sum_nil, Option.toList_some, Option.toList_none, List.cons_append, List.nil_append, List.length_cons, List.length_nil, List.getD_cons_succ, List.getD_cons_zero, List.set_cons_succ, List.set_cons_zero, Nat.reduceAdd, Nat.reduceLT, Nat.reduceLeDiff, Nat.zero_le, Nat.zero_add, Nat.add_zero]

/-- a row of at most k types that spells the whole text -/
def rdRow : Nat → List Int32 → Option (List Ty)
  | 0, l => if l = [] then some [] else none
  | k + 1, l => if l = [] then some [] else match rdTy l with
    | none => none
    | some q => match rdRow k (l.drop q.2) with
      | none => none
      | some r => some (q.1 :: r)
theorem rdTy_spl {l : List Int32} {q : Ty × Nat} (h : rdTy l = some q) : q.2 = spl q.1 ∧ 0 < q.2 ∧ q.2 ≤ l.length ∧ q.1.1 ≤ 3 := by
  unfold rdTy at h
  split at h
  · cases h
  · rename_i h3
    split at h
    · cases h
    · rename_i c r hd
      have hl : (l.drop (lbr l)).length = r.length + 1 := by rw [hd]; rfl
      rw [List.length_drop] at hl
      split at h
      · split at h
        · cases h
        · rename_i k r2
          rw [List.length_cons] at hl
          split at h
          · cases h
            exact ⟨rfl, by show 0 < lbr l + 2; omega, by show lbr l + 2 ≤ _; omega, by show lbr l ≤ 3; omega⟩
          · cases h
      · rename_i hc
        split at h
        · cases h
          refine ⟨?_, by show 0 < lbr l + 1; omega, by show lbr l + 1 ≤ _; omega, by show lbr l ≤ 3; omega⟩
          show lbr l + 1 = lbr l + (if c = 79 then 2 else 1)
          rw [if_neg hc]
        · cases h
