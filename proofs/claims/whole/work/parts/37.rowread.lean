/-! READING A ROW -/
theorem sp_rr_loop {d : Nat} {a ar : Nat} {t : List Int32} {cs : List Value} {h : AH} {Q : Option Value → AH → Prop} (H : Chs h a ar t cs) (ht : ∀ c ∈ t, asc c) (S : Str h 0 sgl) (hsN : sN ≤ h.length) :
    ∀ (k : Nat) (g : AH) (s : List Ty) (p : Nat) (o : Option Value), s.length + k = 4 → p ≤ t.length → Grow h g (2 + s.length) (6 + 3 * s.length) → Row g h.length (h.length + 1) s →
    (match rdRow k (t.drop p) with
      | none => ∀ g', Grow h g' 6 18 → Q (some .null) g'
      | some r => ∀ g', Grow h g' 6 18 → Row g' h.length (h.length + 1) (s ++ r) → Q (some (.ref h.length)) g') →
    wp (d + 6) 14 10 [some (.ref a), some (.ref h.length), some (.int (nI p)), o] [] g Q := by
  have hlr : ar < h.length := lt_of_get H.2.1
  have hla : a < h.length := lt_of_get H.1
  intro k
  induction k with
  | zero =>
    intro g s p o hk hp G R K
    obtain ⟨vs, r1, r2, r3, r4, r5, r6, r7⟩ := id R
    have Hg : Chs g a ar t cs := ⟨by rw [G.2.2.2 a hla]; exact H.1, by rw [G.2.2.2 ar hlr]; exact H.2.1, H.2.2⟩
    have h7 := H.2.2.2.2.2.2.1
    have h3 := H.2.2.1
    have e4 : ¬ nI s.length < (4 : Int32) := nI_nlt (b := 4) (by omega) (by omega)
    have e5 : (nI p < nI t.length) ↔ p < t.length := nI_ltI (by omega) (by omega)
    simp only [k_14_10, k_14_10N, k_14_14, k_14_15, k_14_68, k_14_69, k_14_69N, k_14_73, k_14_76, k_14_77, k_14_80, k_14_80N, k_14_11, k_14_70, okG_iff r1, fld_of r1, okV_iff Hg.1, sp_len Hg, e4, e5, if_false, am_cat, am_kill, Value.category, List.map_cons, List.map_nil, List.sum_cons, List.sum_nil, Option.toList_some, Option.toList_none, List.cons_append, List.nil_append, List.length_cons, List.length_nil, List.getD_cons_succ, List.getD_cons_zero, List.set_cons_succ, List.set_cons_zero, Nat.reduceAdd, Nat.reduceLT, Nat.reduceLeDiff, Nat.zero_le, Nat.zero_add, Nat.add_zero]
    by_cases c1 : p < t.length
    · have hd : ¬ t.drop p = [] := fun q => by rw [List.drop_eq_nil_iff] at q; omega
      simp only [c1, if_true, k_14_81, k_14_81N, am_cat, am_kill, Value.category, List.map_cons, List.map_nil, List.sum_cons, List.sum_nil, Option.toList_some, Option.toList_none, List.cons_append, List.nil_append, List.length_cons, List.length_nil, List.getD_cons_succ, List.getD_cons_zero, List.set_cons_succ, List.set_cons_zero, Nat.reduceAdd, Nat.reduceLT, Nat.reduceLeDiff, Nat.zero_le, Nat.zero_add, Nat.add_zero]
      unfold rdRow at K
      rw [if_neg hd] at K
      exact K g (G.le (by omega) (by omega))
    · have hd : t.drop p = [] := List.drop_eq_nil_of_le (by omega)
      simp only [c1, if_false, k_14_81, k_14_81N, am_cat, am_kill, Value.category, List.map_cons, List.map_nil, List.sum_cons, List.sum_nil, Option.toList_some, Option.toList_none, List.cons_append, List.nil_append, List.length_cons, List.length_nil, List.getD_cons_succ, List.getD_cons_zero, List.set_cons_succ, List.set_cons_zero, Nat.reduceAdd, Nat.reduceLT, Nat.reduceLeDiff, Nat.zero_le, Nat.zero_add, Nat.add_zero]
      unfold rdRow at K
      rw [if_pos hd] at K
      exact K g (G.le (by omega) (by omega)) (by rw [List.append_nil]; exact R)
  | succ k ih =>
    intro g s p o hk hp G R K
    obtain ⟨vs, r1, r2, r3, r4, r5, r6, r7⟩ := id R
    have Hg : Chs g a ar t cs := ⟨by rw [G.2.2.2 a hla]; exact H.1, by rw [G.2.2.2 ar hlr]; exact H.2.1, H.2.2⟩
    have h7 := H.2.2.2.2.2.2.1
    have h3 := H.2.2.1
    have Sg : Str g 0 sgl := by
      obtain ⟨v, q1, q2, s1, s2, s3⟩ := S
      exact ⟨v, q1, q2, by rw [G.2.2.2 0 (lt_of_get s1)]; exact s1, by rw [G.2.2.2 v (lt_of_get s2)]; exact s2, s3⟩
    have e4 : nI s.length < (4 : Int32) := nI_lt (b := 4) (by omega) (by omega)
    have e5 : (nI p < nI t.length) ↔ p < t.length := nI_ltI (by omega) (by omega)
    simp only [k_14_10, k_14_10N, k_14_14, k_14_15, k_14_18, k_14_19, k_14_19N, k_14_23, k_14_11, k_14_20, okG_iff r1, fld_of r1, okV_iff Hg.1, sp_len Hg, e4, e5, if_true, am_cat, am_kill, Value.category, List.map_cons, List.map_nil, List.sum_cons, List.sum_nil, Option.toList_some, Option.toList_none, List.cons_append, List.nil_append, List.length_cons, List.length_nil, List.getD_cons_succ, List.getD_cons_zero, List.set_cons_succ, List.set_cons_zero, Nat.reduceAdd, Nat.reduceLT, Nat.reduceLeDiff, Nat.zero_le, Nat.zero_add, Nat.add_zero]
    by_cases c1 : p < t.length
    · have hd : ¬ t.drop p = [] := fun q => by rw [List.drop_eq_nil_iff] at q; omega
      simp only [c1, if_true, k_14_26, k_14_26N, k_14_27, k_14_28, am_cat, am_kill, Value.category, List.map_cons, List.map_nil, List.sum_cons, List.sum_nil, Option.toList_some, Option.toList_none, List.cons_append, List.nil_append, List.length_cons, List.length_nil, List.getD_cons_succ, List.getD_cons_zero, List.set_cons_succ, List.set_cons_zero, Nat.reduceAdd, Nat.reduceLT, Nat.reduceLeDiff, Nat.zero_le, Nat.zero_add, Nat.add_zero]
      rw [sp_read Hg ht Sg hp]
      unfold rdRow at K
      rw [if_neg hd] at K
      cases hr : rdTy (t.drop p) with
      | none =>
        rw [hr] at K
        simp only [k_14_31, k_14_31N, k_14_32, k_14_32N, k_14_33, k_14_33N, k_14_36, k_14_37, k_14_37N, am_cat, am_kill, Value.category, List.map_cons, List.map_nil, List.sum_cons, List.sum_nil, Option.toList_some, Option.toList_none, List.cons_append, List.nil_append, List.length_cons, List.length_nil, List.getD_cons_succ, List.getD_cons_zero, List.set_cons_succ, List.set_cons_zero, Nat.reduceAdd, Nat.reduceLT, Nat.reduceLeDiff, Nat.zero_le, Nat.zero_add, Nat.add_zero]
        exact K g (G.le (by omega) (by omega))
      | some q =>
        rw [hr] at K
        obtain ⟨q1, q2, q3, q4⟩ := rdTy_spl hr
        rw [List.length_drop] at q3
        have hl1 : h.length + 1 < g.length := lt_of_get r2
        have hsl : s.length < 4 := by omega
        have hc := nI_clamp (n := s.length) (by omega)
        have w1 := get_app (x := tyc q.1) r1
        have w2 := get_app (x := tyc q.1) r2
        have w3 := get_top (h := g) (x := tyc q.1)
        have w4 : okA (fun ty => decide (ty = .object (cN 3))) (g ++ [tyc q.1]) (h.length + 1) (nI s.length) := ⟨_, vs, w2, by decide, nI_pos (by omega), by rw [hc]; omega⟩
        simp only [k_14_31, k_14_31N, k_14_32, k_14_32N, k_14_33, k_14_33N, k_14_38, k_14_38N, k_14_42, k_14_42N, k_14_46, k_14_46N, k_14_39, k_14_43, okG_iff w1, fld_of w1, am_cat, am_kill, Value.category, List.map_cons, List.map_nil, List.sum_cons, List.sum_nil, Option.toList_some, Option.toList_none, List.cons_append, List.nil_append, List.length_cons, List.length_nil, List.getD_cons_succ, List.getD_cons_zero, List.set_cons_succ, List.set_cons_zero, Nat.reduceAdd, Nat.reduceLT, Nat.reduceLeDiff, Nat.zero_le, Nat.zero_add, Nat.add_zero]
        rw [k_14_47 (ci := 3) w3 w4 (by omega), hast_of w2, hc]
        have y1 : ((g ++ [tyc q.1]).set (h.length + 1) (.inl (.object "TestEmitter$Type"), vs.set s.length (.ref g.length)))[h.length]? = some (.inr 2, [.ref (h.length + 1), .int (nI s.length)]) := by rw [get_set_ne (by omega)]; exact w1
        have y2 : ((g ++ [tyc q.1]).set (h.length + 1) (.inl (.object "TestEmitter$Type"), vs.set s.length (.ref g.length)))[h.length + 1]? = some (.inl (.object "TestEmitter$Type"), vs.set s.length (.ref g.length)) := get_set_eq w2
        have y3 : ((g ++ [tyc q.1]).set (h.length + 1) (.inl (.object "TestEmitter$Type"), vs.set s.length (.ref g.length)))[g.length]? = some (tyc q.1) := by rw [get_set_ne (by omega)]; exact w3
        simp only [k_14_48, k_14_48N, k_14_49, k_14_49i, k_14_53, k_14_54, k_14_50, k_14_55, okG_iff y1, fld_of y1, hput_of y1, hsN, nI_1, am_cat, am_kill, Value.category, List.map_cons, List.map_nil, List.sum_cons, List.sum_nil, Option.toList_some, Option.toList_none, List.cons_append, List.nil_append, List.length_cons, List.length_nil, List.getD_cons_succ, List.getD_cons_zero, List.set_cons_succ, List.set_cons_zero, Nat.reduceAdd, Nat.reduceLT, Nat.reduceLeDiff, Nat.zero_le, Nat.zero_add, Nat.add_zero]
        have z1 := get_set_eq (x := ((.inr 2, [.ref (h.length + 1), .int (nI (s.length + 1))]) : AC)) y1
        have z2 : (((g ++ [tyc q.1]).set (h.length + 1) (.inl (.object "TestEmitter$Type"), vs.set s.length (.ref g.length))).set h.length (.inr 2, [.ref (h.length + 1), .int (nI (s.length + 1))]))[h.length + 1]? = some (.inl (.object "TestEmitter$Type"), vs.set s.length (.ref g.length)) := by rw [get_set_ne (by omega)]; exact y2
        have z3 : (((g ++ [tyc q.1]).set (h.length + 1) (.inl (.object "TestEmitter$Type"), vs.set s.length (.ref g.length))).set h.length (.inr 2, [.ref (h.length + 1), .int (nI (s.length + 1))]))[g.length]? = some (tyc q.1) := by rw [get_set_ne (by omega)]; exact y3
        have z4 : ∀ (b : Nat) (τ : Ty), g[b]? = some (tyc τ) → (((g ++ [tyc q.1]).set (h.length + 1) (.inl (.object "TestEmitter$Type"), vs.set s.length (.ref g.length))).set h.length (.inr 2, [.ref (h.length + 1), .int (nI (s.length + 1))]))[b]? = some (tyc τ) := by
          intro b τ hb
          have n1 : h.length ≠ b := fun e => by rw [← e, r1] at hb; unfold tyc at hb; injection hb with hb; injection hb with hb; injection hb with hb; exact absurd hb (by decide)
          have n2 : h.length + 1 ≠ b := fun e => by rw [← e, r2] at hb; unfold tyc at hb; injection hb with hb; injection hb with hb; cases hb
          rw [get_set_ne n1, get_set_ne n2]
          exact get_app hb
        have G3 : Grow h (((g ++ [tyc q.1]).set (h.length + 1) (.inl (.object "TestEmitter$Type"), vs.set s.length (.ref g.length))).set h.length (.inr 2, [.ref (h.length + 1), .int (nI (s.length + 1))])) (2 + (s ++ [q.1]).length) (6 + 3 * (s ++ [q.1]).length) := by
          refine (((G.app (tyc q.1)).set (by omega) w2 (List.length_set ..)).set (vs' := [.ref (h.length + 1), .int (nI (s.length + 1))]) (Nat.le_refl _) y1 rfl).le ?_ ?_
          · simp; omega
          · simp [tyc]; omega
        generalize ((g ++ [tyc q.1]).set (h.length + 1) (.inl (.object "TestEmitter$Type"), vs.set s.length (.ref g.length))).set h.length (.inr 2, [.ref (h.length + 1), .int (nI (s.length + 1))]) = g3 at z1 z2 z3 z4 G3
        have z5 : g3[g.length]? = some (.inr 3, [.int (nI q.1.1), .int q.1.2.1, .int (nI q.1.2.2)]) := z3
        simp only [k_14_58, k_14_59, k_14_59N, k_14_63, k_14_64, k_14_65, k_14_60, okV_iff z5, sp_spl z3, nI_add, am_cat, am_kill, Value.category, List.map_cons, List.map_nil, List.sum_cons, List.sum_nil, Option.toList_some, Option.toList_none, List.cons_append, List.nil_append, List.length_cons, List.length_nil, List.getD_cons_succ, List.getD_cons_zero, List.set_cons_succ, List.set_cons_zero, Nat.reduceAdd, Nat.reduceLT, Nat.reduceLeDiff, Nat.zero_le, Nat.zero_add, Nat.add_zero]
        refine ih g3 (s ++ [q.1]) (p + spl q.1) _ (by simp; omega) (by omega) G3 ⟨vs.set s.length (.ref g.length), by simpa using z1, z2, by rw [List.length_set]; exact r3, by simp; omega, r5, r6, fun j τ hj => ?_⟩ ?_
        · rw [List.getElem?_append] at hj
          by_cases hjl : j < s.length
          · rw [if_pos hjl] at hj
            obtain ⟨b, b1, b2, b3⟩ := r7 j τ hj
            exact ⟨b, by rw [List.getElem?_set_ne (by omega)]; exact b1, z4 b τ b2, b3⟩
          · rw [if_neg hjl] at hj
            have hz : j - s.length < 1 := (List.getElem?_eq_some_iff.mp hj).1
            obtain rfl : j = s.length := by omega
            rw [Nat.sub_self] at hj
            cases hj
            exact ⟨g.length, by rw [List.getElem?_set_self (by omega)], z3, by omega⟩
        · rw [← q1, ← List.drop_drop]
          dsimp only at K
          cases hrr : rdRow k ((t.drop p).drop q.2) with
          | none => rw [hrr] at K; exact K
          | some r =>
            rw [hrr] at K
            intro g' G' R'
            exact K g' G' (by rw [List.append_assoc] at R'; exact R')
    · have hd : t.drop p = [] := List.drop_eq_nil_of_le (by omega)
      simp only [c1, if_false, k_14_68, k_14_69, k_14_69N, k_14_73, k_14_80, k_14_80N, k_14_81, k_14_81N, k_14_70, okV_iff Hg.1, sp_len Hg, e5, am_cat, am_kill, Value.category, List.map_cons, List.map_nil, List.sum_cons, List.sum_nil, Option.toList_some, Option.toList_none, List.cons_append, List.nil_append, List.length_cons, List.length_nil, List.getD_cons_succ, List.getD_cons_zero, List.set_cons_succ, List.set_cons_zero, Nat.reduceAdd, Nat.reduceLT, Nat.reduceLeDiff, Nat.zero_le, Nat.zero_add, Nat.add_zero]
      unfold rdRow at K
      rw [if_pos hd] at K
      exact K g (G.le (by omega) (by omega)) (by rw [List.append_nil]; exact R)

theorem sp_rowread {d : Nat} {a ar : Nat} {t : List Int32} {cs : List Value} {h : AH} {o1 o2 o3 : Option Value} {Q : Option Value → AH → Prop} (H : Chs h a ar t cs) (ht : ∀ c ∈ t, asc c) (S : Str h 0 sgl) (K : match rdRow 4 t with
      | none => ∀ g', Grow h g' 6 18 → Q (some .null) g'
      | some r => ∀ g', Grow h g' 6 18 → Row g' h.length (h.length + 1) r → Q (some (.ref h.length)) g') : wp (d + 6) 14 0 [some (.ref a), o1, o2, o3] [] h Q := by
  have hsN : sN ≤ h.length := Nat.le_of_lt (Nat.lt_of_le_of_lt H.2.2.2.2.1 (lt_of_get H.1))
  have w1 := get_top (h := h) (x := ((.inr 2, [.null, .int 0]) : AC))
  simp only [k_14_3, k_14_3i, k_14_0, k_14_4, am_cat, am_kill, Value.category, List.map_cons, List.map_nil, List.sum_cons, List.sum_nil, Option.toList_some, Option.toList_none, List.cons_append, List.nil_append, List.length_cons, List.length_nil, List.getD_cons_succ, List.getD_cons_zero, List.set_cons_succ, List.set_cons_zero, Nat.reduceAdd, Nat.reduceLT, Nat.reduceLeDiff, Nat.zero_le, Nat.zero_add, Nat.add_zero]
  rw [sp_rinit w1 hsN]
  simp only [k_14_7, k_14_7N, k_14_8, k_14_9, am_cat, am_kill, Value.category, List.map_cons, List.map_nil, List.sum_cons, List.sum_nil, Option.toList_some, Option.toList_none, List.cons_append, List.nil_append, List.length_cons, List.length_nil, List.getD_cons_succ, List.getD_cons_zero, List.set_cons_succ, List.set_cons_zero, Nat.reduceAdd, Nat.reduceLT, Nat.reduceLeDiff, Nat.zero_le, Nat.zero_add, Nat.add_zero]
  have w2 := get_app (x := ((.inl (.object "TestEmitter$Type"), List.replicate 4 .null) : AC)) w1
  have w3 := get_top (h := h ++ [((.inr 2, [.null, .int 0]) : AC)]) (x := ((.inl (.object "TestEmitter$Type"), List.replicate 4 .null) : AC))
  have e1 : (h ++ [((.inr 2, [.null, .int 0]) : AC)]).length = h.length + 1 := by simp
  rw [e1] at w3 ⊢
  have z1 := get_set_eq (x := ((.inr 2, [.ref (h.length + 1), .int 0]) : AC)) w2
  refine sp_rr_loop H ht S hsN 4 _ [] 0 _ rfl (Nat.zero_le _) ?_ ⟨List.replicate 4 .null, z1, by rw [get_set_ne (by omega)]; exact w3, by simp, by simp, hsN, by omega, fun j τ hj => by simp at hj⟩ ?_
  · refine ((((Grow.rf (h := h)).app _).app _).set (vs' := [.ref (h.length + 1), .int 0]) (Nat.le_refl _) w2 rfl).le ?_ ?_
    · simp
    · simp
  · rw [List.drop_zero]
    exact K
