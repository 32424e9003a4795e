/-! THE REFERENCE'S BODIES -/
section MRE
variable {P S h : AH} {n n0 : Nat → Int32} {A A0 : Nat → Nat → Int32} {k u ar d : Nat} {t w D tc tl : List Int32} {nl x : Int32} {o1 : Option Value} {R : List (List Ty)} {τ : Ty} {Q : Option Value → AH → Prop}
theorem mr_tail (hP : P.length = 135) {lf t0 : Int32} {o2 o3 : Option Value} (tq : ∀ c, c ≠ 91 → (t0 = c ↔ τ.1 = 0 ∧ τ.2.1 = c)) (hlf : (lf = 0 ∧ sfx τ = []) ∨ lf = 1) (hV : (τ.1 = 0 ∧ τ.2.1 = 86) → sfx τ = []) (T : Prt A 0 tc) (hc : ∀ c ∈ tc, chr c) (hl : tc.length < 2 ^ 26) (M : MS P S n A 2 t u ar w nl h) (hb : t.length < 2 ^ 27) (K : ∀ h', MS P S n A 2 (t ++ (cpT tc ++ ((if τ.1 = 0 ∧ τ.2.1 = 86 then [] else sfx τ ++ [41]) ++ [59]))) u ar w nl h' → wp (d + 14) 103 287 [some (.ref 135), some (.int t0), o2, o3, some (.int lf)] [] h' Q) : wp (d + 14) 103 228 [some (.ref 135), some (.int t0), o2, o3, some (.int lf)] [] h Q := by
  have hk : 2 < 4 := by decide
  have cl := cpT_len tc
  have z1 : ((1 : Int32) = 0) ↔ False := by decide
  have z0 : ((0 : Int32) = 0) ↔ True := by decide
  have t86 := tq 86 (by decide)
  have t70 := tq 70 (by decide)
  have t68 := tq 68 (by decide)
  simp only [k_103_228, k_103_228N, k_103_229, k_103_230, M.ov hP, am_cat, am_kill, Value.category, List.map_cons, List.map_nil, List.sum_cons, List.sum_nil, Option.toList_some, Option.toList_none, List.cons_append, List.nil_append, List.length_cons, List.length_nil, List.getD_cons_succ, List.getD_cons_zero, List.set_cons_succ, List.set_cons_zero, Nat.reduceAdd, Nat.reduceLT, Nat.reduceLeDiff, Nat.zero_le, Nat.zero_add, Nat.add_zero]
  refine mi_copy (q := 0) hP hk (by decide) (by decide) T hc (by omega) M (by omega) (fun h1 M1 => ?_)
  have fin : ∀ (h' : AH) (v : List Int32), v.length ≤ 30 → v = sfx τ → MS P S n A 2 (t ++ cpT tc ++ v) u ar w nl h' → wp (d + 14) 103 269 [some (.ref 135), some (.int t0), o2, o3, some (.int lf)] [] h' Q := by
    intro h' v hv ev M'
    rw [← ev] at K hV
    simp only [k_103_269, k_103_270, k_103_272, t86, am_cat, am_kill, Value.category, List.map_cons, List.map_nil, List.sum_cons, List.sum_nil, Option.toList_some, Option.toList_none, List.cons_append, List.nil_append, List.length_cons, List.length_nil, List.getD_cons_succ, List.getD_cons_zero, List.set_cons_succ, List.set_cons_zero, Nat.reduceAdd, Nat.reduceLT, Nat.reduceLeDiff, Nat.zero_le, Nat.zero_add, Nat.add_zero]
    by_cases cV : τ.1 = 0 ∧ τ.2.1 = 86
    · rw [if_pos cV] at K
      rw [hV cV, List.append_nil] at M'
      simp only [if_pos cV, k_103_281, k_103_281N, k_103_282, k_103_284, M'.ov hP, am_cat, am_kill, Value.category, List.map_cons, List.map_nil, List.sum_cons, List.sum_nil, Option.toList_some, Option.toList_none, List.cons_append, List.nil_append, List.length_cons, List.length_nil, List.getD_cons_succ, List.getD_cons_zero, List.set_cons_succ, List.set_cons_zero, Nat.reduceAdd, Nat.reduceLT, Nat.reduceLeDiff, Nat.zero_le, Nat.zero_add, Nat.add_zero]
      refine mi_put hP hk ⟨by decide, by decide⟩ M' (by rw [List.length_append]; omega) (fun h2 M2 => ?_)
      refine K h2 ?_
      simp only [List.append_assoc, List.nil_append] at M2 ⊢
      exact M2
    · rw [if_neg cV] at K
      simp only [if_neg cV, k_103_275, k_103_275N, k_103_276, k_103_278, M'.ov hP, am_cat, am_kill, Value.category, List.map_cons, List.map_nil, List.sum_cons, List.sum_nil, Option.toList_some, Option.toList_none, List.cons_append, List.nil_append, List.length_cons, List.length_nil, List.getD_cons_succ, List.getD_cons_zero, List.set_cons_succ, List.set_cons_zero, Nat.reduceAdd, Nat.reduceLT, Nat.reduceLeDiff, Nat.zero_le, Nat.zero_add, Nat.add_zero]
      refine mi_put hP hk ⟨by decide, by decide⟩ M' (by simp only [List.length_append]; omega) (fun h2 M2 => ?_)
      simp only [k_103_281, k_103_281N, k_103_282, k_103_284, M2.ov hP, am_cat, am_kill, Value.category, List.map_cons, List.map_nil, List.sum_cons, List.sum_nil, Option.toList_some, Option.toList_none, List.cons_append, List.nil_append, List.length_cons, List.length_nil, List.getD_cons_succ, List.getD_cons_zero, List.set_cons_succ, List.set_cons_zero, Nat.reduceAdd, Nat.reduceLT, Nat.reduceLeDiff, Nat.zero_le, Nat.zero_add, Nat.add_zero]
      refine mi_put hP hk ⟨by decide, by decide⟩ M2 (by simp only [List.length_append, List.length_cons, List.length_nil]; omega) (fun h3 M3 => ?_)
      refine K h3 ?_
      simp only [List.append_assoc] at M3 ⊢
      exact M3
  have s38 := sxl 38
  have s39 := sxl 39
  rcases hlf with ⟨e, es⟩ | e
  · subst e
    simp only [k_103_233, k_103_235, if_true, am_cat, am_kill, Value.category, List.map_cons, List.map_nil, List.sum_cons, List.sum_nil, Option.toList_some, Option.toList_none, List.cons_append, List.nil_append, List.length_cons, List.length_nil, List.getD_cons_succ, List.getD_cons_zero, List.set_cons_succ, List.set_cons_zero, Nat.reduceAdd, Nat.reduceLT, Nat.reduceLeDiff, Nat.zero_le, Nat.zero_add, Nat.add_zero]
    exact fin h1 [] (by decide) es.symm (by rw [List.append_nil]; exact M1)
  · subst e
    simp only [k_103_233, k_103_235, k_103_238, k_103_239, k_103_241, z1, if_false, t70, am_cat, am_kill, Value.category, List.map_cons, List.map_nil, List.sum_cons, List.sum_nil, Option.toList_some, Option.toList_none, List.cons_append, List.nil_append, List.length_cons, List.length_nil, List.getD_cons_succ, List.getD_cons_zero, List.set_cons_succ, List.set_cons_zero, Nat.reduceAdd, Nat.reduceLT, Nat.reduceLeDiff, Nat.zero_le, Nat.zero_add, Nat.add_zero]
    by_cases c70 : τ.1 = 0 ∧ τ.2.1 = 70
    · simp only [if_pos c70, k_103_250, k_103_250N, k_103_251, k_103_252, k_103_254, k_103_260, k_103_257, k_103_266, t70, M1.ov hP, am_cat, am_kill, Value.category, List.map_cons, List.map_nil, List.sum_cons, List.sum_nil, Option.toList_some, Option.toList_none, List.cons_append, List.nil_append, List.length_cons, List.length_nil, List.getD_cons_succ, List.getD_cons_zero, List.set_cons_succ, List.set_cons_zero, Nat.reduceAdd, Nat.reduceLT, Nat.reduceLeDiff, Nat.zero_le, Nat.zero_add, Nat.add_zero]
      refine mi_wordc hP hk (sx 38) (by decide) M1 (by rw [List.length_append]; omega) (fun h2 M2 => ?_)
      exact fin h2 (sx 38) (by omega) (by unfold sfx; rw [if_pos c70]) M2
    · simp only [if_neg c70, k_103_244, k_103_245, k_103_247, t68, am_cat, am_kill, Value.category, List.map_cons, List.map_nil, List.sum_cons, List.sum_nil, Option.toList_some, Option.toList_none, List.cons_append, List.nil_append, List.length_cons, List.length_nil, List.getD_cons_succ, List.getD_cons_zero, List.set_cons_succ, List.set_cons_zero, Nat.reduceAdd, Nat.reduceLT, Nat.reduceLeDiff, Nat.zero_le, Nat.zero_add, Nat.add_zero]
      by_cases c68 : τ.1 = 0 ∧ τ.2.1 = 68
      · simp only [if_pos c68, k_103_250, k_103_250N, k_103_251, k_103_252, k_103_254, t70, if_neg c70, am_cat, am_kill, Value.category, List.map_cons, List.map_nil, List.sum_cons, List.sum_nil, Option.toList_some, Option.toList_none, List.cons_append, List.nil_append, List.length_cons, List.length_nil, List.getD_cons_succ, List.getD_cons_zero, List.set_cons_succ, List.set_cons_zero, Nat.reduceAdd, Nat.reduceLT, Nat.reduceLeDiff, Nat.zero_le, Nat.zero_add, Nat.add_zero]
        simp only [k_103_263, k_103_266, M1.ov hP, am_cat, am_kill, Value.category, List.map_cons, List.map_nil, List.sum_cons, List.sum_nil, Option.toList_some, Option.toList_none, List.cons_append, List.nil_append, List.length_cons, List.length_nil, List.getD_cons_succ, List.getD_cons_zero, List.set_cons_succ, List.set_cons_zero, Nat.reduceAdd, Nat.reduceLT, Nat.reduceLeDiff, Nat.zero_le, Nat.zero_add, Nat.add_zero]
        refine mi_wordc hP hk (sx 39) (by decide) M1 (by rw [List.length_append]; omega) (fun h2 M2 => ?_)
        exact fin h2 (sx 39) (by omega) (by unfold sfx; rw [if_neg c70, if_pos c68]) M2
      · simp only [if_neg c68]
        exact fin h1 [] (by decide) (by unfold sfx; rw [if_neg c70, if_neg c68]; rfl) (by rw [List.append_nil]; exact M1)
/-- from the place where part 2 is begun -/
theorem mr_body (hP : P.length = 135) {t0 yes none : Int32} {tp : List Int32} {o4 : Option Value} (tq : ∀ c, c ≠ 91 → (t0 = c ↔ τ.1 = 0 ∧ τ.2.1 = c)) (t91 : t0 = 91 ↔ 0 < τ.1) (hn : none = if tl = sx 33 ∧ ¬ (τ.1 = 0 ∧ τ.2.1 = 90) ∧ ¬ (τ.1 = 0 ∧ τ.2.1 = 86) then 1 else 0) (hy : (τ.1 = 0 ∧ τ.2.1 = 90) → yes = if tl = sx 30 then 1 else 0) (hp : ¬ (τ.1 = 0 ∧ τ.2.1 = 90) → ¬ (τ.1 = 0 ∧ τ.2.1 = 86) → tp = tl) (hF : tl = sx 33 → sfx τ = []) (T0 : Prt A 0 tc) (T1 : Prt A 1 tp) (hc : ∀ c ∈ tc, chr c) (hc1 : ∀ c ∈ tp, chr c) (hl : tc.length < 2 ^ 25) (hl1 : tp.length < 2 ^ 25) (M : MS P S n A 2 [] u ar w nl h) (K : ∀ h' o1 o2 o3 o4, MS P S n A 2 (asM τ tl tc) u ar w nl h' → wp (d + 14) 103 287 [some (.ref 135), o1, o2, o3, o4] [] h' Q) : wp (d + 14) 103 101 [some (.ref 135), some (.int t0), some (.int none), some (.int yes), o4] [] h Q := by
  have hk : 2 < 4 := by decide
  have z1 : ((1 : Int32) = 0) ↔ False := by decide
  have z0 : ((0 : Int32) = 0) ↔ True := by decide
  have t86 := tq 86 (by decide)
  have t90 := tq 90 (by decide)
  have cl := cpT_len tp
  have sV : (τ.1 = 0 ∧ τ.2.1 = 86) → sfx τ = [] := fun q => by
    unfold sfx
    rw [if_neg (fun z => by rw [q.2] at z; exact absurd z.2 (by decide)), if_neg (fun z => by rw [q.2] at z; exact absurd z.2 (by decide))]
    rfl
  have sZ : (τ.1 = 0 ∧ τ.2.1 = 90) → sfx τ = [] := fun q => by
    unfold sfx
    rw [if_neg (fun z => by rw [q.2] at z; exact absurd z.2 (by decide)), if_neg (fun z => by rw [q.2] at z; exact absurd z.2 (by decide))]
    rfl
  unfold asM at K
  simp only [k_103_101, k_103_102, k_103_104, t86, am_cat, am_kill, Value.category, List.map_cons, List.map_nil, List.sum_cons, List.sum_nil, Option.toList_some, Option.toList_none, List.cons_append, List.nil_append, List.length_cons, List.length_nil, List.getD_cons_succ, List.getD_cons_zero, List.set_cons_succ, List.set_cons_zero, Nat.reduceAdd, Nat.reduceLT, Nat.reduceLeDiff, Nat.zero_le, Nat.zero_add, Nat.add_zero]
  by_cases cV : τ.1 = 0 ∧ τ.2.1 = 86
  · have cZ : ¬ (τ.1 = 0 ∧ τ.2.1 = 90) := fun z => by rw [cV.2] at z; exact absurd z.2 (by decide)
    have c91 : ¬ 0 < τ.1 := by omega
    rw [if_pos cV, List.nil_append] at K
    rw [if_neg (fun z => z.2.2 cV)] at hn
    subst hn
    simp only [if_pos cV, k_103_121, k_103_122, k_103_124, k_103_125, k_103_127, k_103_150, k_103_151, k_103_164, k_103_165, k_103_167, k_103_194, k_103_196, k_103_206, k_103_208, t90, cZ, t91, c91, if_false, if_true, am_cat, am_kill, Value.category, List.map_cons, List.map_nil, List.sum_cons, List.sum_nil, Option.toList_some, Option.toList_none, List.cons_append, List.nil_append, List.length_cons, List.length_nil, List.getD_cons_succ, List.getD_cons_zero, List.set_cons_succ, List.set_cons_zero, Nat.reduceAdd, Nat.reduceLT, Nat.reduceLeDiff, Nat.zero_le, Nat.zero_add, Nat.add_zero]
    refine mr_tail hP tq (Or.inl ⟨rfl, sV cV⟩) sV T0 hc (by omega) M (by decide) (fun h1 M1 => K h1 _ _ _ _ ?_)
    rw [if_pos cV]
    rw [if_pos cV] at M1
    exact M1
  rw [if_neg cV] at K
  simp only [if_neg cV, k_103_107, k_103_108, k_103_110, t90, am_cat, am_kill, Value.category, List.map_cons, List.map_nil, List.sum_cons, List.sum_nil, Option.toList_some, Option.toList_none, List.cons_append, List.nil_append, List.length_cons, List.length_nil, List.getD_cons_succ, List.getD_cons_zero, List.set_cons_succ, List.set_cons_zero, Nat.reduceAdd, Nat.reduceLT, Nat.reduceLeDiff, Nat.zero_le, Nat.zero_add, Nat.add_zero]
  by_cases cZ : τ.1 = 0 ∧ τ.2.1 = 90
  · rw [if_pos cZ] at K
    have c91 : ¬ 0 < τ.1 := by omega
    have hy := hy cZ
    subst hy
    simp only [if_pos cZ, k_103_121, k_103_122, k_103_124, k_103_125, k_103_127, k_103_130, k_103_130N, k_103_131, k_103_132, t90, am_cat, am_kill, Value.category, List.map_cons, List.map_nil, List.sum_cons, List.sum_nil, Option.toList_some, Option.toList_none, List.cons_append, List.nil_append, List.length_cons, List.length_nil, List.getD_cons_succ, List.getD_cons_zero, List.set_cons_succ, List.set_cons_zero, Nat.reduceAdd, Nat.reduceLT, Nat.reduceLeDiff, Nat.zero_le, Nat.zero_add, Nat.add_zero]
    by_cases cT : tl = sx 30
    · rw [if_pos cT] at K
      simp only [if_pos cT, z1, if_false, k_103_138, k_103_135, k_103_144, M.ov hP, am_cat, am_kill, Value.category, List.map_cons, List.map_nil, List.sum_cons, List.sum_nil, Option.toList_some, Option.toList_none, List.cons_append, List.nil_append, List.length_cons, List.length_nil, List.getD_cons_succ, List.getD_cons_zero, List.set_cons_succ, List.set_cons_zero, Nat.reduceAdd, Nat.reduceLT, Nat.reduceLeDiff, Nat.zero_le, Nat.zero_add, Nat.add_zero]
      refine mi_asn hP hk (sx 31) (by decide) (by decide) M (by decide) (fun h1 M1 => ?_)
      simp only [k_103_147, k_103_206, k_103_208, if_true, am_cat, am_kill, Value.category, List.map_cons, List.map_nil, List.sum_cons, List.sum_nil, Option.toList_some, Option.toList_none, List.cons_append, List.nil_append, List.length_cons, List.length_nil, List.getD_cons_succ, List.getD_cons_zero, List.set_cons_succ, List.set_cons_zero, Nat.reduceAdd, Nat.reduceLT, Nat.reduceLeDiff, Nat.zero_le, Nat.zero_add, Nat.add_zero]
      refine mr_tail hP tq (Or.inl ⟨rfl, sZ cZ⟩) sV T0 hc (by omega) M1 (by have := sxl 31; rw [List.nil_append]; omega) (fun h2 M2 => K h2 _ _ _ _ ?_)
      rw [if_neg cV]
      rw [if_neg cV] at M2
      exact M2
    · rw [if_neg cT] at K
      simp only [if_neg cT, if_true, k_103_141, k_103_144, M.ov hP, am_cat, am_kill, Value.category, List.map_cons, List.map_nil, List.sum_cons, List.sum_nil, Option.toList_some, Option.toList_none, List.cons_append, List.nil_append, List.length_cons, List.length_nil, List.getD_cons_succ, List.getD_cons_zero, List.set_cons_succ, List.set_cons_zero, Nat.reduceAdd, Nat.reduceLT, Nat.reduceLeDiff, Nat.zero_le, Nat.zero_add, Nat.add_zero]
      refine mi_asn hP hk (sx 32) (by decide) (by decide) M (by decide) (fun h1 M1 => ?_)
      simp only [k_103_147, k_103_206, k_103_208, if_true, am_cat, am_kill, Value.category, List.map_cons, List.map_nil, List.sum_cons, List.sum_nil, Option.toList_some, Option.toList_none, List.cons_append, List.nil_append, List.length_cons, List.length_nil, List.getD_cons_succ, List.getD_cons_zero, List.set_cons_succ, List.set_cons_zero, Nat.reduceAdd, Nat.reduceLT, Nat.reduceLeDiff, Nat.zero_le, Nat.zero_add, Nat.add_zero]
      refine mr_tail hP tq (Or.inl ⟨rfl, sZ cZ⟩) sV T0 hc (by omega) M1 (by have := sxl 32; rw [List.nil_append]; omega) (fun h2 M2 => K h2 _ _ _ _ ?_)
      rw [if_neg cV]
      rw [if_neg cV] at M2
      exact M2
  rw [if_neg cZ] at K
  simp only [if_neg cZ, k_103_113, k_103_114, am_cat, am_kill, Value.category, List.map_cons, List.map_nil, List.sum_cons, List.sum_nil, Option.toList_some, Option.toList_none, List.cons_append, List.nil_append, List.length_cons, List.length_nil, List.getD_cons_succ, List.getD_cons_zero, List.set_cons_succ, List.set_cons_zero, Nat.reduceAdd, Nat.reduceLT, Nat.reduceLeDiff, Nat.zero_le, Nat.zero_add, Nat.add_zero]
  have etp := hp cZ cV
  subst etp
  by_cases cN : tp = sx 33
  · rw [if_pos cN] at K
    rw [if_pos ⟨cN, cZ, cV⟩] at hn
    subst hn
    simp only [z1, if_false, k_103_121, k_103_122, k_103_124, k_103_125, k_103_127, k_103_150, k_103_151, k_103_154, k_103_154N, k_103_155, k_103_158, t90, if_neg cZ, M.ov hP, am_cat, am_kill, Value.category, List.map_cons, List.map_nil, List.sum_cons, List.sum_nil, Option.toList_some, Option.toList_none, List.cons_append, List.nil_append, List.length_cons, List.length_nil, List.getD_cons_succ, List.getD_cons_zero, List.set_cons_succ, List.set_cons_zero, Nat.reduceAdd, Nat.reduceLT, Nat.reduceLeDiff, Nat.zero_le, Nat.zero_add, Nat.add_zero]
    refine mi_asn hP hk (sx 34) (by decide) (by decide) M (by decide) (fun h1 M1 => ?_)
    simp only [k_103_161, k_103_206, k_103_208, if_true, am_cat, am_kill, Value.category, List.map_cons, List.map_nil, List.sum_cons, List.sum_nil, Option.toList_some, Option.toList_none, List.cons_append, List.nil_append, List.length_cons, List.length_nil, List.getD_cons_succ, List.getD_cons_zero, List.set_cons_succ, List.set_cons_zero, Nat.reduceAdd, Nat.reduceLT, Nat.reduceLeDiff, Nat.zero_le, Nat.zero_add, Nat.add_zero]
    refine mr_tail hP tq (Or.inl ⟨rfl, hF cN⟩) sV T0 hc (by omega) M1 (by have := sxl 34; rw [List.nil_append]; omega) (fun h2 M2 => K h2 _ _ _ _ ?_)
    rw [if_neg cV]
    rw [if_neg cV] at M2
    exact M2
  rw [if_neg cN] at K
  rw [if_neg (fun z => cN z.1)] at hn
  subst hn
  have mid : ∀ (h' : AH) (v : List Int32), v.length ≤ 25 → v = (if 0 < τ.1 then sx 35 else sx 36) → MS P S n A 2 v u ar w nl h' → wp (d + 14) 103 206 [some (.ref 135), some (.int t0), some (.int 0), some (.int yes), some (.int 1)] [] h' Q := by
    intro h' v hv ev M'
    rw [← ev] at K
    simp only [k_103_206, k_103_208, k_103_211, k_103_211N, k_103_212, k_103_213, z1, if_false, M'.ov hP, am_cat, am_kill, Value.category, List.map_cons, List.map_nil, List.sum_cons, List.sum_nil, Option.toList_some, Option.toList_none, List.cons_append, List.nil_append, List.length_cons, List.length_nil, List.getD_cons_succ, List.getD_cons_zero, List.set_cons_succ, List.set_cons_zero, Nat.reduceAdd, Nat.reduceLT, Nat.reduceLeDiff, Nat.zero_le, Nat.zero_add, Nat.add_zero]
    refine mi_copy (q := 1) hP hk (by decide) (by decide) T1 hc1 (by omega) M' (by omega) (fun h1 M1 => ?_)
    simp only [k_103_216, k_103_216N, k_103_217, k_103_219, M1.ov hP, am_cat, am_kill, Value.category, List.map_cons, List.map_nil, List.sum_cons, List.sum_nil, Option.toList_some, Option.toList_none, List.cons_append, List.nil_append, List.length_cons, List.length_nil, List.getD_cons_succ, List.getD_cons_zero, List.set_cons_succ, List.set_cons_zero, Nat.reduceAdd, Nat.reduceLT, Nat.reduceLeDiff, Nat.zero_le, Nat.zero_add, Nat.add_zero]
    refine mi_put hP hk ⟨by decide, by decide⟩ M1 (by rw [List.length_append]; omega) (fun h2 M2 => ?_)
    simp only [k_103_222, k_103_222N, k_103_223, k_103_225, M2.ov hP, am_cat, am_kill, Value.category, List.map_cons, List.map_nil, List.sum_cons, List.sum_nil, Option.toList_some, Option.toList_none, List.cons_append, List.nil_append, List.length_cons, List.length_nil, List.getD_cons_succ, List.getD_cons_zero, List.set_cons_succ, List.set_cons_zero, Nat.reduceAdd, Nat.reduceLT, Nat.reduceLeDiff, Nat.zero_le, Nat.zero_add, Nat.add_zero]
    refine mi_put hP hk ⟨by decide, by decide⟩ M2 (by simp only [List.length_append, List.length_cons, List.length_nil]; omega) (fun h3 M3 => ?_)
    refine mr_tail hP tq (Or.inr rfl) sV T0 hc (by omega) M3 (by simp only [List.length_append, List.length_cons, List.length_nil]; omega) (fun h4 M4 => K h4 _ _ _ _ ?_)
    rw [if_neg cV]
    rw [if_neg cV] at M4
    rw [show sx 37 = [44] ++ [32] from rfl]
    simp only [List.append_assoc] at M4 ⊢
    exact M4
  simp only [if_true, k_103_117, k_103_118, k_103_122, k_103_124, k_103_125, k_103_127, k_103_150, k_103_151, k_103_164, k_103_165, k_103_167, t90, if_neg cZ, t91, am_cat, am_kill, Value.category, List.map_cons, List.map_nil, List.sum_cons, List.sum_nil, Option.toList_some, Option.toList_none, List.cons_append, List.nil_append, List.length_cons, List.length_nil, List.getD_cons_succ, List.getD_cons_zero, List.set_cons_succ, List.set_cons_zero, Nat.reduceAdd, Nat.reduceLT, Nat.reduceLeDiff, Nat.zero_le, Nat.zero_add, Nat.add_zero]
  by_cases cb : 0 < τ.1
  · simp only [if_pos cb, k_103_170, k_103_170N, k_103_171, k_103_174, M.ov hP, am_cat, am_kill, Value.category, List.map_cons, List.map_nil, List.sum_cons, List.sum_nil, Option.toList_some, Option.toList_none, List.cons_append, List.nil_append, List.length_cons, List.length_nil, List.getD_cons_succ, List.getD_cons_zero, List.set_cons_succ, List.set_cons_zero, Nat.reduceAdd, Nat.reduceLT, Nat.reduceLeDiff, Nat.zero_le, Nat.zero_add, Nat.add_zero]
    refine mi_wordc hP hk [97, 115, 115, 101, 114, 116] (by decide) M (by decide) (fun h1 M1 => ?_)
    simp only [k_103_177, k_103_177N, k_103_178, k_103_181, M1.ov hP, am_cat, am_kill, Value.category, List.map_cons, List.map_nil, List.sum_cons, List.sum_nil, Option.toList_some, Option.toList_none, List.cons_append, List.nil_append, List.length_cons, List.length_nil, List.getD_cons_succ, List.getD_cons_zero, List.set_cons_succ, List.set_cons_zero, Nat.reduceAdd, Nat.reduceLT, Nat.reduceLeDiff, Nat.zero_le, Nat.zero_add, Nat.add_zero]
    refine mi_wordc hP hk [65, 114, 114, 97, 121] (by decide) M1 (by decide) (fun h2 M2 => ?_)
    simp only [k_103_184, k_103_184N, k_103_185, k_103_188, M2.ov hP, am_cat, am_kill, Value.category, List.map_cons, List.map_nil, List.sum_cons, List.sum_nil, Option.toList_some, Option.toList_none, List.cons_append, List.nil_append, List.length_cons, List.length_nil, List.getD_cons_succ, List.getD_cons_zero, List.set_cons_succ, List.set_cons_zero, Nat.reduceAdd, Nat.reduceLT, Nat.reduceLeDiff, Nat.zero_le, Nat.zero_add, Nat.add_zero]
    refine mi_wordc hP hk [69, 113, 117, 97, 108, 115, 40] (by decide) M2 (by decide) (fun h3 M3 => ?_)
    simp only [k_103_191, am_cat, am_kill, Value.category, List.map_cons, List.map_nil, List.sum_cons, List.sum_nil, Option.toList_some, Option.toList_none, List.cons_append, List.nil_append, List.length_cons, List.length_nil, List.getD_cons_succ, List.getD_cons_zero, List.set_cons_succ, List.set_cons_zero, Nat.reduceAdd, Nat.reduceLT, Nat.reduceLeDiff, Nat.zero_le, Nat.zero_add, Nat.add_zero]
    exact mid h3 (sx 35) (sxl 35) (by rw [if_pos cb]) M3
  · simp only [if_neg cb, k_103_194, k_103_196, k_103_199, k_103_199N, k_103_200, k_103_203, z1, if_false, M.ov hP, am_cat, am_kill, Value.category, List.map_cons, List.map_nil, List.sum_cons, List.sum_nil, Option.toList_some, Option.toList_none, List.cons_append, List.nil_append, List.length_cons, List.length_nil, List.getD_cons_succ, List.getD_cons_zero, List.set_cons_succ, List.set_cons_zero, Nat.reduceAdd, Nat.reduceLT, Nat.reduceLeDiff, Nat.zero_le, Nat.zero_add, Nat.add_zero]
    refine mi_asn hP hk (sx 36) (by decide) (by decide) M (by decide) (fun h1 M1 => ?_)
    exact mid h1 (sx 36) (sxl 36) (by rw [if_neg cb]) M1
end MRE
