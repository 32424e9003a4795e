/-! THE CALL AND THE OUTCOME, as the builder writes them -/
def callT (D : List Int32) (R : List (List Ty)) (l : List Ty) : List Int32 × Nat := (sx 2 ++ ((litR (litT D R 4) l 0 0).1 ++ [41]), (litR (litT D R 4) l 0 0).2)
def outT (D : List Int32) (R : List (List Ty)) (τ : Ty) (u : Nat) : List Int32 × Nat := if τ.1 = 0 ∧ τ.2.1 = 86 then ([], u) else litT D R 4 τ u
section CALL
variable {g h : AH} {a ar0 d u : Nat} {cs0 vs : List Value} {D t : List Int32} {R : List (List Ty)} {Q : Option Value → AH → Prop}
theorem bi_call {r q : Nat} {l : List Ty} (rb : RndB) (E : En g R) (W : Row g r q l) (hl : ∀ τ ∈ l, okT τ) (B : BI g a ar0 cs0 D vs g [] 0) (K : ∀ h' t', BI g a ar0 cs0 D vs h' t' (callT D R l).2 → Cut D (callT D R l).1 t' (callT D R l).2 → t'.length ≤ 7000 → Q none h') : wp (d + 60) 33 11 [some (.ref 111), some (.ref r), some (.ref a)] [] g Q := by
  have hD := B.dl
  have s2 : (sx 2).length = 11 := rfl
  have hl4 : l.length ≤ 4 := W.choose_spec.2.2.2.1
  simp only [k_33_11, k_33_11N, k_33_12, k_33_14, B.ov, am_cat, am_kill, Value.category, List.map_cons, List.map_nil, List.sum_cons, List.sum_nil, Option.toList_some, Option.toList_none, List.cons_append, List.nil_append, List.length_cons, List.length_nil, List.getD_cons_succ, List.getD_cons_zero, List.set_cons_succ, List.set_cons_zero, Nat.reduceAdd, Nat.reduceLT, Nat.reduceLeDiff, Nat.zero_le, Nat.zero_add, Nat.add_zero]
  refine bi_puts (i := 2) B E.1 (by decide) (by decide) (fun h1 B1 => ?_)
  have b1 := E.b1 B1
  simp only [k_33_17, k_33_17N, k_33_18, k_33_18N, k_33_19, k_33_20, k_33_20N, k_33_21, okV_iff b1, am_cat, am_kill, Value.category, List.map_cons, List.map_nil, List.sum_cons, List.sum_nil, Option.toList_some, Option.toList_none, List.cons_append, List.nil_append, List.length_cons, List.length_nil, List.getD_cons_succ, List.getD_cons_zero, List.set_cons_succ, List.set_cons_zero, Nat.reduceAdd, Nat.reduceLT, Nat.reduceLeDiff, Nat.zero_le, Nat.zero_add, Nat.add_zero]
  simp only [k_36_0, k_36_1, am_cat, am_kill, Value.category, List.map_cons, List.map_nil, List.sum_cons, List.sum_nil, Option.toList_some, Option.toList_none, List.cons_append, List.nil_append, List.length_cons, List.length_nil, List.getD_cons_succ, List.getD_cons_zero, List.set_cons_succ, List.set_cons_zero, Nat.reduceAdd, Nat.reduceLT, Nat.reduceLeDiff, Nat.zero_le, Nat.zero_add, Nat.add_zero]
  have mono := litR_mono (litT_mono D R 4) l 0 0
  refine bi_row (o := 4) (bi_build rb E 4 (by omega)) (by omega) E W (by omega) l [] 0 0 h1 _ _ rfl rfl hl B1 (Or.inl rfl) (by rw [List.nil_append, s2]; omega) (fun h2 t2 B2 C2 L2 => ?_)
  rw [List.nil_append] at C2 L2
  rw [s2] at L2
  simp only [k_33_24, k_33_24N, k_33_25, k_33_27, B2.ov, am_cat, am_kill, Value.category, List.map_cons, List.map_nil, List.sum_cons, List.sum_nil, Option.toList_some, Option.toList_none, List.cons_append, List.nil_append, List.length_cons, List.length_nil, List.getD_cons_succ, List.getD_cons_zero, List.set_cons_succ, List.set_cons_zero, Nat.reduceAdd, Nat.reduceLT, Nat.reduceLeDiff, Nat.zero_le, Nat.zero_add, Nat.add_zero]
  refine bi_put B2 ⟨by decide, by decide⟩ (by omega) (fun h3 B3 => ?_)
  simp only [k_33_30, am_cat, am_kill, Value.category, List.map_cons, List.map_nil, List.sum_cons, List.sum_nil, Option.toList_some, Option.toList_none, List.cons_append, List.nil_append, List.length_cons, List.length_nil, List.getD_cons_succ, List.getD_cons_zero, List.set_cons_succ, List.set_cons_zero, Nat.reduceAdd, Nat.reduceLT, Nat.reduceLeDiff, Nat.zero_le, Nat.zero_add, Nat.add_zero]
  refine K h3 _ B3 ?_ ?_
  · have := C2.app (Nat.le_refl _) [41]
    rw [List.append_assoc] at this
    exact this
  · rw [List.length_append]
    show t2.length + 1 ≤ _
    omega
theorem bi_out {p : Nat} {τ : Ty} (rb : RndB) (E : En g R) (hp : g[p]? = some (tyc τ)) (hs : sN ≤ p) (hτ : okT τ ∨ τ = (0, 86, 0)) (B : BI g a ar0 cs0 D vs g [] u) (K : ∀ h' t', BI g a ar0 cs0 D vs h' t' (outT D R τ u).2 → Cut D (outT D R τ u).1 t' (outT D R τ u).2 → t'.length ≤ 7000 → Q none h') : wp (d + 60) 55 4 [some (.ref 111), some (.ref p), some (.ref a)] [] g Q := by
  have hD := B.dl
  have hp' : g[p]? = some (.inr 3, [.int (nI τ.1), .int τ.2.1, .int (nI τ.2.2)]) := hp
  have h1 : τ.1 < 2 ^ 31 := by
    rcases hτ with q | q
    · have := q.1
      omega
    · rw [q]
      decide
  have z0 : ((0 : Int32) = 0) ↔ True := by decide
  have z1 : ((1 : Int32) = 0) ↔ False := by decide
  simp only [k_55_4, k_55_4N, k_55_5, k_55_7, okV_iff hp', sp_single hp h1, am_cat, am_kill, Value.category, List.map_cons, List.map_nil, List.sum_cons, List.sum_nil, Option.toList_some, Option.toList_none, List.cons_append, List.nil_append, List.length_cons, List.length_nil, List.getD_cons_succ, List.getD_cons_zero, List.set_cons_succ, List.set_cons_zero, Nat.reduceAdd, Nat.reduceLT, Nat.reduceLeDiff, Nat.zero_le, Nat.zero_add, Nat.add_zero]
  unfold outT at K
  by_cases c : τ.1 = 0 ∧ τ.2.1 = 86
  · rw [if_pos c] at K
    simp only [c, and_self, if_true, k_55_10, k_55_21, z1, if_false]
    exact K g [] B (Or.inl rfl) (by decide)
  · rw [if_neg c] at K
    have hτ1 : okT τ := hτ.elim id (fun q => absurd (by rw [q]; exact ⟨rfl, rfl⟩) c)
    simp only [c, if_false, k_55_10, k_55_13, k_55_13N, k_55_14, k_55_14N, k_55_15, k_55_16, k_55_17, k_55_17N, k_55_18, z0, if_true, okV_iff E.2.1, am_cat, am_kill, Value.category, List.map_cons, List.map_nil, List.sum_cons, List.sum_nil, Option.toList_some, Option.toList_none, List.cons_append, List.nil_append, List.length_cons, List.length_nil, List.getD_cons_succ, List.getD_cons_zero, List.set_cons_succ, List.set_cons_zero, Nat.reduceAdd, Nat.reduceLT, Nat.reduceLeDiff, Nat.zero_le, Nat.zero_add, Nat.add_zero]
    have eT := litT_eq D R 4 τ u
    refine bi_build rb E 4 (by omega) τ.1 hτ1.1 (d + 59) 0 p u τ g [] [] _ hτ1 (by omega) (by have := hτ1.1; omega) hp hs B (Or.inl rfl) (by have := hτ1.1; rw [List.length_nil]; omega) (fun h2 t2 B2 C2 L2 => ?_)
    rw [show decide (0 < 0) = false from rfl, ← eT] at B2 C2 L2
    rw [List.nil_append] at C2
    simp only [k_55_21, am_cat, am_kill, Value.category, List.map_cons, List.map_nil, List.sum_cons, List.sum_nil, Option.toList_some, Option.toList_none, List.cons_append, List.nil_append, List.length_cons, List.length_nil, List.getD_cons_succ, List.getD_cons_zero, List.set_cons_succ, List.set_cons_zero, Nat.reduceAdd, Nat.reduceLT, Nat.reduceLeDiff, Nat.zero_le, Nat.zero_add, Nat.add_zero]
    refine K h2 t2 B2 C2 ?_
    have hτ3 := hτ1.1
    unfold LB at L2
    rw [List.length_nil] at L2
    omega
end CALL
