/-! READING A ROW -/
theorem sp_rr_loop {d : Nat} {a ar : Nat} {t : List Int32} {cs : List Value} {h : AH} {Q : Option Value → AH → Prop} (H : Chs h a ar t cs) (ht : ∀ c ∈ t, asc c) (S : Str h 0 sgl) (hsN : sN ≤ h.length) :
    ∀ (k : Nat) (g : AH) (s : List Ty) (p : Nat) (o : Option Value), s.length + k = 4 → p ≤ t.length → Grow h g (2 + s.length) (6 + 3 * s.length) → Row g h.length (h.length + 1) s →
    (match rdRow k (t.drop p) with
      | none => ∀ g', Grow h g' 6 18 → Q (some .null) g'
      | some r => ∀ g', Grow h g' 6 18 → Row g' h.length (h.length + 1) (s ++ r) → Q (some (.ref h.length)) g') →
    wp (d + 6) 14 10 [some (.ref a), some (.ref h.length), some (.int (nI p)), o] [] g Q := by
  have hlr : ar < h.length := lt_of_get H.2.1
  have hla : a < h.length := lt_of_get H.1
  intro k
  induction k with
  | zero =>
    intro g s p o hk hp G R K
    obtain ⟨vs, r1, r2, r3, r4, r5, r6, r7⟩ := id R
    have Hg : Chs g a ar t cs := ⟨by rw [G.2.2.2 a hla]; exact H.1, by rw [G.2.2.2 ar hlr]; exact H.2.1, H.2.2⟩
    have h7 := H.2.2.2.2.2.2.1
    have h3 := H.2.2.1
    have e4 : ¬ nI s.length < (4 : Int32) := nI_nlt (b := 4) (by omega) (by omega)
    have e5 : (nI p < nI t.length) ↔ p < t.length := nI_ltI (by omega) (by omega)
    simp only [k_14_10, k_14_10N, k_14_14, k_14_15, k_14_68, k_14_69, k_14_69N, k_14_73, k_14_76, k_14_77, k_14_80, k_14_80N, k_14_11, k_14_70, okG_iff r1, fld_of r1, okV_iff Hg.1, sp_len Hg, e4, e5, if_false, am_cat, am_kill, Value.category, List.map_cons, List.map_nil, List.sum_cons, List.sum_nil, Option.toList_some, Option.toList_none, List.cons_append, List.nil_append, List.length_cons, List.length_nil, List.getD_cons_succ, List.getD_cons_zero, List.set_cons_succ, List.set_cons_zero, Nat.reduceAdd, Nat.reduceLT, Nat.reduceLeDiff, Nat.zero_le, Nat.zero_add, Nat.add_zero]
    by_cases c1 : p < t.length
    · have hd : ¬ t.drop p = [] := fun q => by rw [List.drop_eq_nil_iff] at q; omega
      simp only [c1, if_true, k_14_81, k_14_81N, am_cat, am_kill, Value.category, List.map_cons, List.map_nil, List.sum_cons, List.sum_nil, Option.toList_some, Option.toList_none, List.cons_append, List.nil_append, List.length_cons, List.length_nil, List.getD_cons_succ, List.getD_cons_zero, List.set_cons_succ, List.set_cons_zero, Nat.reduceAdd, Nat.reduceLT, Nat.reduceLeDiff, Nat.zero_le, Nat.zero_add, Nat.add_zero]
      unfold rdRow at K
      rw [if_neg hd] at K
      exact K g (G.le (by omega) (by omega))
    · have hd : t.drop p = [] := List.drop_eq_nil_of_le (by omega)
      simp only [c1, if_false, k_14_81, k_14_81N, am_cat, am_kill, Value.category, List.map_cons, List.map_nil, List.sum_cons, List.sum_nil, Option.toList_some, Option.toList_none, List.cons_append, List.nil_append, List.length_cons, List.length_nil, List.getD_cons_succ, List.getD_cons_zero, List.set_cons_succ, List.set_cons_zero, Nat.reduceAdd, Nat.reduceLT, Nat.reduceLeDiff, Nat.zero_le, Nat.zero_add, Nat.add_zero]
      unfold rdRow at K
      rw [if_pos hd] at K
      exact K g (G.le (by omega) (by omega)) (by rw [List.append_nil]; exact R)
  | succ k ih =>
    intro g s p o hk hp G R K
    obtain ⟨vs, r1, r2, r3, r4, r5, r6, r7⟩ := id R
    have Hg : Chs g a ar t cs := ⟨by rw [G.2.2.2 a hla]; exact H.1, by rw [G.2.2.2 ar hlr]; exact H.2.1, H.2.2⟩
    have h7 := H.2.2.2.2.2.2.1
    have h3 := H.2.2.1
    have Sg : Str g 0 sgl := by
      obtain ⟨v, q1, q2, s1, s2, s3⟩ := S
      exact ⟨v, q1, q2, by rw [G.2.2.2 0 (lt_of_get s1)]; exact s1, by rw [G.2.2.2 v (lt_of_get s2)]; exact s2, s3⟩
    have e4 : nI s.length < (4 : Int32) := nI_lt (b := 4) (by omega) (by omega)
    have e5 : (nI p < nI t.length) ↔ p < t.length := nI_ltI (by omega) (by omega)
    simp only [k_14_10, k_14_10N, k_14_14, k_14_15, k_14_18, k_14_19, k_14_19N, k_14_23, k_14_11, k_14_20, okG_iff r1, fld_of r1, okV_iff Hg.1, sp_len Hg, e4, e5, if_true, am_cat, am_kill, Value.category, List.map_cons, List.map_nil, List.sum_cons, List.sum_nil, Option.toList_some, Option.toList_none, List.cons_append, List.nil_append, List.length_cons, List.length_nil, List.getD_cons_succ, List.getD_cons_zero, List.set_cons_succ, List.set_cons_zero, Nat.reduceAdd, Nat.reduceLT, Nat.reduceLeDiff, Nat.zero_le, Nat.zero_add, Nat.add_zero]
    by_cases c1 : p < t.length
    · have hd : ¬ t.drop p = [] := fun q => by rw [List.drop_eq_nil_iff] at q; omega
      simp only [c1, if_true, k_14_26, k_14_26N, k_14_27, k_14_28, am_cat, am_kill, Value.category, List.map_cons, List.map_nil, List.sum_cons, List.sum_nil, Option.toList_some, Option.toList_none, List.cons_append, List.nil_append, List.length_cons, List.length_nil, List.getD_cons_succ, List.getD_cons_zero, List.set_cons_succ, List.set_cons_zero, Nat.reduceAdd, Nat.reduceLT, Nat.reduceLeDiff, Nat.zero_le, Nat.zero_add, Nat.add_zero]
      rw [sp_read Hg ht Sg hp]
      unfold rdRow at K
      rw [if_neg hd] at K
      cases hr : rdTy (t.drop p) with
      | none =>
        rw [hr] at K
        simp only [k_14_31, k_14_31N, k_14_32, k_14_32N, k_14_33, k_14_33N, k_14_36, k_14_37, k_14_37N, am_cat, am_kill, Value.category, List.map_cons, List.map_nil, List.sum_cons, List.sum_nil, Option.toList_some, Option.toList_none, List.cons_append, List.nil_append, List.length_cons, List.length_nil, List.getD_cons_succ, List.getD_cons_zero, List.set_cons_succ, List.set_cons_zero, Nat.reduceAdd, Nat.reduceLT, Nat.reduceLeDiff, Nat.zero_le, Nat.zero_add, Nat.add_zero]
        exact K g (G.le (by omega) (by omega))
      | some q =>
        rw [hr] at K
        obtain ⟨q1, q2, q3, q4⟩ := rdTy_spl hr
        rw [List.length_drop] at q3
        sorry
    · have hd : t.drop p = [] := List.drop_eq_nil_of_le (by omega)
      simp only [c1, if_false, k_14_68, k_14_69, k_14_69N, k_14_73, k_14_80, k_14_80N, k_14_81, k_14_81N, k_14_70, okV_iff Hg.1, sp_len Hg, e5, am_cat, am_kill, Value.category, List.map_cons, List.map_nil, List.sum_cons, List.sum_nil, Option.toList_some, Option.toList_none, List.cons_append, List.nil_append, List.length_cons, List.length_nil, List.getD_cons_succ, List.getD_cons_zero, List.set_cons_succ, List.set_cons_zero, Nat.reduceAdd, Nat.reduceLT, Nat.reduceLeDiff, Nat.zero_le, Nat.zero_add, Nat.add_zero]
      unfold rdRow at K
      rw [if_pos hd] at K
      exact K g (G.le (by omega) (by omega)) (by rw [List.append_nil]; exact R)
