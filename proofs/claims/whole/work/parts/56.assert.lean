/-! BODIES, as the emitter writes them -/
def sfx (τ : Ty) : List Int32 := if τ.1 = 0 ∧ τ.2.1 = 70 then sx 38 else if τ.1 = 0 ∧ τ.2.1 = 68 then sx 39 else sx 40
def asT (τ : Ty) (lit call : List Int32) : List Int32 := if τ.1 = 0 ∧ τ.2.1 = 86 then call ++ sx 29 else (if τ.1 = 0 ∧ τ.2.1 = 90 then (if lit = sx 30 then sx 31 else sx 32) else if lit = sx 33 then sx 34 else (if 0 < τ.1 then sx 35 else sx 36) ++ (lit ++ sx 37)) ++ (call ++ (sfx τ ++ sx 41))
def ctT (nm call : List Int32) : List Int32 := sx 42 ++ (call ++ (sx 43 ++ (nm ++ (sx 44 ++ (nm ++ sx 45)))))
section ASR
variable {g h : AH} {a ar0 d u : Nat} {cs0 vs : List Value} {D t : List Int32} {Q : Option Value → AH → Prop}
theorem BI.chs {a2 ar2 : Nat} {t2 : List Int32} {cs2 : List Value} (B : BI g a ar0 cs0 D vs h t u) (C : Chs g a2 ar2 t2 cs2) (n1 : a2 ≠ a) (n2 : ar2 ≠ ar0) : Chs h a2 ar2 t2 cs2 := by
  obtain ⟨-, ⟨f1, f2⟩, -, ⟨t0, G0⟩, ⟨f, G1⟩⟩ := B
  obtain ⟨q1, q2⟩ := G0.ne C
  have m1 : a2 ≠ 112 := fun e => by have := C.1; rw [e, G1] at this; cases this
  have m2 : ar2 ≠ 112 := fun e => by have := C.2.1; rw [e, G1] at this; cases this
  exact ⟨by rw [f2 a2 (lt_of_get C.1) n1 q2.symm m1]; exact C.1, by rw [f2 ar2 (lt_of_get C.2.1) q1.symm n2 m2]; exact C.2.1, C.2.2⟩
theorem bi_putc {a2 ar2 : Nat} {t2 : List Int32} {cs2 : List Value} (B : BI g a ar0 cs0 D vs h t u) (C : Chs g a2 ar2 t2 cs2) (n1 : a2 ≠ a) (n2 : ar2 ≠ ar0) (hb : t.length + t2.length < 2 ^ 20) (K : ∀ h', BI g a ar0 cs0 D vs h' (t ++ t2) u → Q none h') : wp (d + 3) 59 0 [some (.ref a), some (.ref a2)] [] h Q := by
  have C2 := B.chs C n1 n2
  obtain ⟨⟨ar, cs, H, p1, p2, p3, p4, p5⟩, R⟩ := id B
  have hne : ar ≠ ar2 := by
    have := lt_of_get C.2.1
    rcases p1 with e | e
    · rw [e]; exact n2.symm
    · omega
  refine sp_putc H C2 n1.symm hne hb ?_
  obtain ⟨ar', cs', H', A⟩ := B.app
  have e1 : ar' = ar := by
    have := H'.1
    rw [H.1] at this
    cases this
    rfl
  subst e1
  have e2 : cs' = cs := by
    have := H'.2.1
    rw [H.2.1] at this
    cases this
    rfl
  subst e2
  exact A _ _ K
theorem bi_assert {a1 a2 ra rt : Nat} {c1 c2 : List Value} {tc tl : List Int32} {τ : Ty} {tk : Int32} (S : Sta g) (X : g[105]? = some (.inr 0, [.ref 106, .ref ra, .ref rt, .ref 111, .ref 123, .ref 125, .ref 127, .ref 129, .ref 131, .int tk])) (hp : g[rt]? = some (tyc τ)) (h31 : τ.1 < 2 ^ 31) (B : BI g 127 ar0 cs0 D vs g [] u) (C1 : Chs g 123 a1 tc c1) (C2 : Chs g 125 a2 tl c2) (n1 : a1 ≠ ar0) (n2 : a2 ≠ ar0) (l1 : tc.length ≤ 7000) (l2 : tl.length ≤ 7000) (K : ∀ h', BI g 127 ar0 cs0 D vs h' (asT τ tl tc) u → Q none h') : wp (d + 8) 58 7 [some (.ref 105)] [] g Q := by
  have hp' : g[rt]? = some (.inr 3, [.int (nI τ.1), .int τ.2.1, .int (nI τ.2.2)]) := hp
  have z0 : ((0 : Int32) = 0) ↔ True := by decide
  have z1 : ((1 : Int32) = 0) ↔ False := by decide
  have tp : ∀ {h : AH} {t : List Int32}, BI g 127 ar0 cs0 D vs h t u → h[rt]? = some (tyc τ) := fun B' => B'.st hp (by simp [tyc]) (by simp [tyc]) (by simp [tyc])
  have fx : ∀ {h : AH} {t : List Int32}, BI g 127 ar0 cs0 D vs h t u → h[105]? = some (.inr 0, [.ref 106, .ref ra, .ref rt, .ref 111, .ref 123, .ref 125, .ref 127, .ref 129, .ref 131, .int tk]) := fun B' => B'.st X (by simp) (by simp) (by simp)
  simp only [k_58_7, k_58_7N, k_58_11, k_58_8, k_58_13, okG_iff X, fld_of X, okV_iff hp', sp_single hp h31, am_cat, am_kill, Value.category, List.map_cons, List.map_nil, List.sum_cons, List.sum_nil, Option.toList_some, Option.toList_none, List.cons_append, List.nil_append, List.length_cons, List.length_nil, List.getD_cons_succ, List.getD_cons_zero, List.set_cons_succ, List.set_cons_zero, Nat.reduceAdd, Nat.reduceLT, Nat.reduceLeDiff, Nat.zero_le, Nat.zero_add, Nat.add_zero]
  unfold asT at K
  by_cases cV : τ.1 = 0 ∧ τ.2.1 = 86
  · rw [if_pos cV] at K
    simp only [cV, and_self, if_true, k_58_16, k_58_19, k_58_19N, k_58_23, k_58_23N, k_58_20, k_58_24, k_58_27, z1, if_false, okG_iff X, fld_of X, B.ov, am_cat, am_kill, Value.category, List.map_cons, List.map_nil, List.sum_cons, List.sum_nil, Option.toList_some, Option.toList_none, List.cons_append, List.nil_append, List.length_cons, List.length_nil, List.getD_cons_succ, List.getD_cons_zero, List.set_cons_succ, List.set_cons_zero, Nat.reduceAdd, Nat.reduceLT, Nat.reduceLeDiff, Nat.zero_le, Nat.zero_add, Nat.add_zero]
    refine bi_putc B C1 (by decide) n1 (by rw [List.length_nil]; omega) (fun h1 B1 => ?_)
    have X1 := fx B1
    simp only [k_58_30, k_58_30N, k_58_31, k_58_34, k_58_36, okG_iff X1, fld_of X1, B1.ov, am_cat, am_kill, Value.category, List.map_cons, List.map_nil, List.sum_cons, List.sum_nil, Option.toList_some, Option.toList_none, List.cons_append, List.nil_append, List.length_cons, List.length_nil, List.getD_cons_succ, List.getD_cons_zero, List.set_cons_succ, List.set_cons_zero, Nat.reduceAdd, Nat.reduceLT, Nat.reduceLeDiff, Nat.zero_le, Nat.zero_add, Nat.add_zero]
    refine bi_puts (i := 29) B1 S (by decide) (by rw [List.nil_append]; omega) (fun h2 B2 => ?_)
    simp only [k_58_39, am_cat, am_kill, Value.category, List.map_cons, List.map_nil, List.sum_cons, List.sum_nil, Option.toList_some, Option.toList_none, List.cons_append, List.nil_append, List.length_cons, List.length_nil, List.getD_cons_succ, List.getD_cons_zero, List.set_cons_succ, List.set_cons_zero, Nat.reduceAdd, Nat.reduceLT, Nat.reduceLeDiff, Nat.zero_le, Nat.zero_add, Nat.add_zero]
    exact K h2 B2
  rw [if_neg cV] at K
  simp only [cV, if_false, k_58_16, k_58_40, k_58_40N, k_58_44, k_58_41, k_58_46, z0, if_true, okG_iff X, fld_of X, okV_iff hp', sp_single hp h31, am_cat, am_kill, Value.category, List.map_cons, List.map_nil, List.sum_cons, List.sum_nil, Option.toList_some, Option.toList_none, List.cons_append, List.nil_append, List.length_cons, List.length_nil, List.getD_cons_succ, List.getD_cons_zero, List.set_cons_succ, List.set_cons_zero, Nat.reduceAdd, Nat.reduceLT, Nat.reduceLeDiff, Nat.zero_le, Nat.zero_add, Nat.add_zero]
  have fin : ∀ (h : AH) (t : List Int32), BI g 127 ar0 cs0 D vs h t u → t.length ≤ 7100 → (∀ h', BI g 127 ar0 cs0 D vs h' (t ++ (tc ++ (sfx τ ++ sx 41))) u → Q none h') → wp (d + 8) 58 149 [some (.ref 105)] [] h Q := by
    intro h t B hl K
    have X0 := fx B
    simp only [k_58_149, k_58_149N, k_58_153, k_58_153N, k_58_150, k_58_154, k_58_157, okG_iff X0, fld_of X0, B.ov, am_cat, am_kill, Value.category, List.map_cons, List.map_nil, List.sum_cons, List.sum_nil, Option.toList_some, Option.toList_none, List.cons_append, List.nil_append, List.length_cons, List.length_nil, List.getD_cons_succ, List.getD_cons_zero, List.set_cons_succ, List.set_cons_zero, Nat.reduceAdd, Nat.reduceLT, Nat.reduceLeDiff, Nat.zero_le, Nat.zero_add, Nat.add_zero]
    refine bi_putc B C1 (by decide) n1 (by omega) (fun h1 B1 => ?_)
    have X1 := fx B1
    have q1 := tp B1
    have q1' : h1[rt]? = some (.inr 3, [.int (nI τ.1), .int τ.2.1, .int (nI τ.2.2)]) := q1
    have end3 : ∀ (i : Nat), i < 52 → sfx τ = sx i → wp (d + 8) 58 200 [some (.ref 105)] [.ref (2 * i), .ref 127] h1 Q := by
      intro i hi ei
      simp only [k_58_200, B1.ov, am_cat, am_kill, Value.category, List.map_cons, List.map_nil, List.sum_cons, List.sum_nil, Option.toList_some, Option.toList_none, List.cons_append, List.nil_append, List.length_cons, List.length_nil, List.getD_cons_succ, List.getD_cons_zero, List.set_cons_succ, List.set_cons_zero, Nat.reduceAdd, Nat.reduceLT, Nat.reduceLeDiff, Nat.zero_le, Nat.zero_add, Nat.add_zero]
      refine bi_puts (i := i) B1 S hi (by rw [List.length_append]; omega) (fun h2 B2 => ?_)
      have X2 := fx B2
      simp only [k_58_203, k_58_203N, k_58_204, k_58_207, k_58_209, okG_iff X2, fld_of X2, B2.ov, am_cat, am_kill, Value.category, List.map_cons, List.map_nil, List.sum_cons, List.sum_nil, Option.toList_some, Option.toList_none, List.cons_append, List.nil_append, List.length_cons, List.length_nil, List.getD_cons_succ, List.getD_cons_zero, List.set_cons_succ, List.set_cons_zero, Nat.reduceAdd, Nat.reduceLT, Nat.reduceLeDiff, Nat.zero_le, Nat.zero_add, Nat.add_zero]
      have sl := sxl i
      refine bi_puts (i := 41) B2 S (by decide) (by simp only [List.length_append]; omega) (fun h3 B3 => ?_)
      simp only [k_58_212, am_cat, am_kill, Value.category, List.map_cons, List.map_nil, List.sum_cons, List.sum_nil, Option.toList_some, Option.toList_none, List.cons_append, List.nil_append, List.length_cons, List.length_nil, List.getD_cons_succ, List.getD_cons_zero, List.set_cons_succ, List.set_cons_zero, Nat.reduceAdd, Nat.reduceLT, Nat.reduceLeDiff, Nat.zero_le, Nat.zero_add, Nat.add_zero]
      refine K h3 ?_
      rw [ei]
      simp only [List.append_assoc] at B3
      exact B3
    simp only [k_58_160, k_58_160N, k_58_164, k_58_164N, k_58_168, k_58_161, k_58_165, k_58_170, okG_iff X1, fld_of X1, okV_iff q1', sp_single q1 h31, am_cat, am_kill, Value.category, List.map_cons, List.map_nil, List.sum_cons, List.sum_nil, Option.toList_some, Option.toList_none, List.cons_append, List.nil_append, List.length_cons, List.length_nil, List.getD_cons_succ, List.getD_cons_zero, List.set_cons_succ, List.set_cons_zero, Nat.reduceAdd, Nat.reduceLT, Nat.reduceLeDiff, Nat.zero_le, Nat.zero_add, Nat.add_zero]
    by_cases cF : τ.1 = 0 ∧ τ.2.1 = 70
    · simp only [cF, and_self, if_true, k_58_173, k_58_178, k_58_176, z1, if_false, am_cat, am_kill, Value.category, List.map_cons, List.map_nil, List.sum_cons, List.sum_nil, Option.toList_some, Option.toList_none, List.cons_append, List.nil_append, List.length_cons, List.length_nil, List.getD_cons_succ, List.getD_cons_zero, List.set_cons_succ, List.set_cons_zero, Nat.reduceAdd, Nat.reduceLT, Nat.reduceLeDiff, Nat.zero_le, Nat.zero_add, Nat.add_zero]
      exact end3 38 (by decide) (by unfold sfx; rw [if_pos cF])
    · simp only [cF, if_false, k_58_173, k_58_181, k_58_181N, k_58_185, k_58_182, k_58_187, z0, if_true, okG_iff X1, fld_of X1, okV_iff q1', sp_single q1 h31, am_cat, am_kill, Value.category, List.map_cons, List.map_nil, List.sum_cons, List.sum_nil, Option.toList_some, Option.toList_none, List.cons_append, List.nil_append, List.length_cons, List.length_nil, List.getD_cons_succ, List.getD_cons_zero, List.set_cons_succ, List.set_cons_zero, Nat.reduceAdd, Nat.reduceLT, Nat.reduceLeDiff, Nat.zero_le, Nat.zero_add, Nat.add_zero]
      by_cases cD : τ.1 = 0 ∧ τ.2.1 = 68
      · simp only [cD, and_self, if_true, k_58_190, k_58_195, k_58_193, z1, if_false, am_cat, am_kill, Value.category, List.map_cons, List.map_nil, List.sum_cons, List.sum_nil, Option.toList_some, Option.toList_none, List.cons_append, List.nil_append, List.length_cons, List.length_nil, List.getD_cons_succ, List.getD_cons_zero, List.set_cons_succ, List.set_cons_zero, Nat.reduceAdd, Nat.reduceLT, Nat.reduceLeDiff, Nat.zero_le, Nat.zero_add, Nat.add_zero]
        exact end3 39 (by decide) (by unfold sfx; rw [if_neg cF, if_pos cD])
      · simp only [cD, if_false, k_58_190, k_58_198, z0, if_true, am_cat, am_kill, Value.category, List.map_cons, List.map_nil, List.sum_cons, List.sum_nil, Option.toList_some, Option.toList_none, List.cons_append, List.nil_append, List.length_cons, List.length_nil, List.getD_cons_succ, List.getD_cons_zero, List.set_cons_succ, List.set_cons_zero, Nat.reduceAdd, Nat.reduceLT, Nat.reduceLeDiff, Nat.zero_le, Nat.zero_add, Nat.add_zero]
        exact end3 40 (by decide) (by unfold sfx; rw [if_neg cF, if_neg cD])
  have S2 := S
  by_cases cZ : τ.1 = 0 ∧ τ.2.1 = 90
  · rw [if_pos cZ] at K
    have S60 : Str g 60 (sx 30) := S.str 30 (by decide)
    simp only [cZ, and_self, if_true, k_58_49, k_58_52, k_58_52N, k_58_56, k_58_56N, k_58_53, k_58_57, k_58_60, k_58_62, z1, if_false, okG_iff X, fld_of X, okV_iff C2.1, sp_holds C2 S60, am_cat, am_kill, Value.category, List.map_cons, List.map_nil, List.sum_cons, List.sum_nil, Option.toList_some, Option.toList_none, List.cons_append, List.nil_append, List.length_cons, List.length_nil, List.getD_cons_succ, List.getD_cons_zero, List.set_cons_succ, List.set_cons_zero, Nat.reduceAdd, Nat.reduceLT, Nat.reduceLeDiff, Nat.zero_le, Nat.zero_add, Nat.add_zero]
    by_cases cT : tl = sx 30
    · rw [if_pos cT] at K
      simp only [cT, if_true, k_58_65, k_58_70, k_58_68, k_58_75, z1, if_false, B.ov, am_cat, am_kill, Value.category, List.map_cons, List.map_nil, List.sum_cons, List.sum_nil, Option.toList_some, Option.toList_none, List.cons_append, List.nil_append, List.length_cons, List.length_nil, List.getD_cons_succ, List.getD_cons_zero, List.set_cons_succ, List.set_cons_zero, Nat.reduceAdd, Nat.reduceLT, Nat.reduceLeDiff, Nat.zero_le, Nat.zero_add, Nat.add_zero]
      refine bi_puts (i := 31) B S (by decide) (by decide) (fun h1 B1 => ?_)
      simp only [k_58_78, am_cat, am_kill, Value.category, List.map_cons, List.map_nil, List.sum_cons, List.sum_nil, Option.toList_some, Option.toList_none, List.cons_append, List.nil_append, List.length_cons, List.length_nil, List.getD_cons_succ, List.getD_cons_zero, List.set_cons_succ, List.set_cons_zero, Nat.reduceAdd, Nat.reduceLT, Nat.reduceLeDiff, Nat.zero_le, Nat.zero_add, Nat.add_zero]
      exact fin h1 _ B1 (by have := sxl 31; rw [List.nil_append]; omega) K
    · rw [if_neg cT] at K
      simp only [cT, if_false, k_58_65, k_58_73, k_58_75, z0, if_true, B.ov, am_cat, am_kill, Value.category, List.map_cons, List.map_nil, List.sum_cons, List.sum_nil, Option.toList_some, Option.toList_none, List.cons_append, List.nil_append, List.length_cons, List.length_nil, List.getD_cons_succ, List.getD_cons_zero, List.set_cons_succ, List.set_cons_zero, Nat.reduceAdd, Nat.reduceLT, Nat.reduceLeDiff, Nat.zero_le, Nat.zero_add, Nat.add_zero]
      refine bi_puts (i := 32) B S (by decide) (by decide) (fun h1 B1 => ?_)
      simp only [k_58_78, am_cat, am_kill, Value.category, List.map_cons, List.map_nil, List.sum_cons, List.sum_nil, Option.toList_some, Option.toList_none, List.cons_append, List.nil_append, List.length_cons, List.length_nil, List.getD_cons_succ, List.getD_cons_zero, List.set_cons_succ, List.set_cons_zero, Nat.reduceAdd, Nat.reduceLT, Nat.reduceLeDiff, Nat.zero_le, Nat.zero_add, Nat.add_zero]
      exact fin h1 _ B1 (by have := sxl 32; rw [List.nil_append]; omega) K
  rw [if_neg cZ] at K
  have S66 : Str g 66 (sx 33) := S.str 33 (by decide)
  simp only [cZ, if_false, k_58_49, k_58_81, k_58_81N, k_58_82, k_58_85, k_58_87, z0, if_true, okG_iff X, fld_of X, okV_iff C2.1, sp_holds C2 S66, am_cat, am_kill, Value.category, List.map_cons, List.map_nil, List.sum_cons, List.sum_nil, Option.toList_some, Option.toList_none, List.cons_append, List.nil_append, List.length_cons, List.length_nil, List.getD_cons_succ, List.getD_cons_zero, List.set_cons_succ, List.set_cons_zero, Nat.reduceAdd, Nat.reduceLT, Nat.reduceLeDiff, Nat.zero_le, Nat.zero_add, Nat.add_zero]
  by_cases cN : tl = sx 33
  · rw [if_pos cN] at K
    simp only [cN, if_true, k_58_90, k_58_93, k_58_93N, k_58_94, k_58_97, k_58_99, z1, if_false, okG_iff X, fld_of X, B.ov, am_cat, am_kill, Value.category, List.map_cons, List.map_nil, List.sum_cons, List.sum_nil, Option.toList_some, Option.toList_none, List.cons_append, List.nil_append, List.length_cons, List.length_nil, List.getD_cons_succ, List.getD_cons_zero, List.set_cons_succ, List.set_cons_zero, Nat.reduceAdd, Nat.reduceLT, Nat.reduceLeDiff, Nat.zero_le, Nat.zero_add, Nat.add_zero]
    refine bi_puts (i := 34) B S (by decide) (by decide) (fun h1 B1 => ?_)
    simp only [k_58_102, am_cat, am_kill, Value.category, List.map_cons, List.map_nil, List.sum_cons, List.sum_nil, Option.toList_some, Option.toList_none, List.cons_append, List.nil_append, List.length_cons, List.length_nil, List.getD_cons_succ, List.getD_cons_zero, List.set_cons_succ, List.set_cons_zero, Nat.reduceAdd, Nat.reduceLT, Nat.reduceLeDiff, Nat.zero_le, Nat.zero_add, Nat.add_zero]
    exact fin h1 _ B1 (by have := sxl 34; rw [List.nil_append]; omega) K
  rw [if_neg cN] at K
  have e0 : ((0 : Int32) < nI τ.1) ↔ 0 < τ.1 := nI_ltI (a := 0) (by omega) h31
  simp only [cN, if_false, k_58_90, k_58_105, k_58_105N, k_58_109, k_58_109N, k_58_106, k_58_110, k_58_113, z0, if_true, okG_iff X, fld_of X, okV_iff hp', sp_brackets hp, am_cat, am_kill, Value.category, List.map_cons, List.map_nil, List.sum_cons, List.sum_nil, Option.toList_some, Option.toList_none, List.cons_append, List.nil_append, List.length_cons, List.length_nil, List.getD_cons_succ, List.getD_cons_zero, List.set_cons_succ, List.set_cons_zero, Nat.reduceAdd, Nat.reduceLT, Nat.reduceLeDiff, Nat.zero_le, Nat.zero_add, Nat.add_zero]
  have mid : ∀ i, i < 52 → (if 0 < τ.1 then sx 35 else sx 36) = sx i → wp (d + 8) 58 126 [some (.ref 105)] [.ref (2 * i), .ref 127] g Q := by
    intro i hi ei
    rw [ei] at K
    have sl := sxl i
    have sl2 := sxl 37
    simp only [k_58_126, B.ov, am_cat, am_kill, Value.category, List.map_cons, List.map_nil, List.sum_cons, List.sum_nil, Option.toList_some, Option.toList_none, List.cons_append, List.nil_append, List.length_cons, List.length_nil, List.getD_cons_succ, List.getD_cons_zero, List.set_cons_succ, List.set_cons_zero, Nat.reduceAdd, Nat.reduceLT, Nat.reduceLeDiff, Nat.zero_le, Nat.zero_add, Nat.add_zero]
    refine bi_puts (i := i) B S hi (by decide) (fun h1 B1 => ?_)
    have X1 := fx B1
    simp only [k_58_129, k_58_129N, k_58_133, k_58_133N, k_58_130, k_58_134, k_58_137, okG_iff X1, fld_of X1, B1.ov, am_cat, am_kill, Value.category, List.map_cons, List.map_nil, List.sum_cons, List.sum_nil, Option.toList_some, Option.toList_none, List.cons_append, List.nil_append, List.length_cons, List.length_nil, List.getD_cons_succ, List.getD_cons_zero, List.set_cons_succ, List.set_cons_zero, Nat.reduceAdd, Nat.reduceLT, Nat.reduceLeDiff, Nat.zero_le, Nat.zero_add, Nat.add_zero]
    refine bi_putc B1 C2 (by decide) n2 (by rw [List.nil_append]; omega) (fun h2 B2 => ?_)
    have X2 := fx B2
    simp only [k_58_140, k_58_140N, k_58_141, k_58_144, k_58_146, okG_iff X2, fld_of X2, B2.ov, am_cat, am_kill, Value.category, List.map_cons, List.map_nil, List.sum_cons, List.sum_nil, Option.toList_some, Option.toList_none, List.cons_append, List.nil_append, List.length_cons, List.length_nil, List.getD_cons_succ, List.getD_cons_zero, List.set_cons_succ, List.set_cons_zero, Nat.reduceAdd, Nat.reduceLT, Nat.reduceLeDiff, Nat.zero_le, Nat.zero_add, Nat.add_zero]
    refine bi_puts (i := 37) B2 S (by decide) (by rw [List.nil_append, List.length_append]; omega) (fun h3 B3 => ?_)
    refine fin h3 _ B3 (by simp only [List.nil_append, List.length_append]; omega) (fun h4 B4 => ?_)
    refine K h4 ?_
    simp only [List.append_assoc, List.nil_append] at B4 ⊢
    exact B4
  by_cases cb : 0 < τ.1
  · simp only [k_58_116, k_58_121, k_58_119, e0, cb, if_true, am_cat, am_kill, Value.category, List.map_cons, List.map_nil, List.sum_cons, List.sum_nil, Option.toList_some, Option.toList_none, List.cons_append, List.nil_append, List.length_cons, List.length_nil, List.getD_cons_succ, List.getD_cons_zero, List.set_cons_succ, List.set_cons_zero, Nat.reduceAdd, Nat.reduceLT, Nat.reduceLeDiff, Nat.zero_le, Nat.zero_add, Nat.add_zero]
    exact mid 35 (by decide) (by rw [if_pos cb])
  · simp only [k_58_116, k_58_124, e0, cb, if_false, am_cat, am_kill, Value.category, List.map_cons, List.map_nil, List.sum_cons, List.sum_nil, Option.toList_some, Option.toList_none, List.cons_append, List.nil_append, List.length_cons, List.length_nil, List.getD_cons_succ, List.getD_cons_zero, List.set_cons_succ, List.set_cons_zero, Nat.reduceAdd, Nat.reduceLT, Nat.reduceLeDiff, Nat.zero_le, Nat.zero_add, Nat.add_zero]
    exact mid 36 (by decide) (by rw [if_neg cb])
theorem bi_catch {a1 ra rt : Nat} {c1 c2 : List Value} {tc nm : List Int32} {tk : Int32} (S : Sta g) (X : g[105]? = some (.inr 0, [.ref 106, .ref ra, .ref rt, .ref 111, .ref 123, .ref 125, .ref 127, .ref 129, .ref 131, .int tk])) (B : BI g 127 ar0 cs0 D vs g [] u) (C1 : Chs g 123 a1 tc c1) (C2 : Chs g 106 107 nm c2) (n1 : a1 ≠ ar0) (n2 : 107 ≠ ar0) (l1 : tc.length ≤ 7000) (l2 : nm.length ≤ 40) (K : ∀ h', BI g 127 ar0 cs0 D vs h' (ctT nm tc) u → Q none h') : wp (d + 8) 67 7 [some (.ref 105)] [] g Q := by
  have fx : ∀ {h : AH} {t : List Int32}, BI g 127 ar0 cs0 D vs h t u → h[105]? = some (.inr 0, [.ref 106, .ref ra, .ref rt, .ref 111, .ref 123, .ref 125, .ref 127, .ref 129, .ref 131, .int tk]) := fun B' => B'.st X (by simp) (by simp) (by simp)
  have s42 := sxl 42
  have s43 := sxl 43
  have s44 := sxl 44
  simp only [k_67_7, k_67_7N, k_67_8, k_67_11, k_67_13, okG_iff X, fld_of X, B.ov, am_cat, am_kill, Value.category, List.map_cons, List.map_nil, List.sum_cons, List.sum_nil, Option.toList_some, Option.toList_none, List.cons_append, List.nil_append, List.length_cons, List.length_nil, List.getD_cons_succ, List.getD_cons_zero, List.set_cons_succ, List.set_cons_zero, Nat.reduceAdd, Nat.reduceLT, Nat.reduceLeDiff, Nat.zero_le, Nat.zero_add, Nat.add_zero]
  refine bi_puts (i := 42) B S (by decide) (by decide) (fun h1 B1 => ?_)
  have X1 := fx B1
  simp only [k_67_16, k_67_16N, k_67_20, k_67_20N, k_67_17, k_67_21, k_67_24, okG_iff X1, fld_of X1, B1.ov, am_cat, am_kill, Value.category, List.map_cons, List.map_nil, List.sum_cons, List.sum_nil, Option.toList_some, Option.toList_none, List.cons_append, List.nil_append, List.length_cons, List.length_nil, List.getD_cons_succ, List.getD_cons_zero, List.set_cons_succ, List.set_cons_zero, Nat.reduceAdd, Nat.reduceLT, Nat.reduceLeDiff, Nat.zero_le, Nat.zero_add, Nat.add_zero]
  refine bi_putc B1 C1 (by decide) n1 (by rw [List.nil_append]; omega) (fun h2 B2 => ?_)
  have X2 := fx B2
  simp only [k_67_27, k_67_27N, k_67_28, k_67_31, k_67_33, okG_iff X2, fld_of X2, B2.ov, am_cat, am_kill, Value.category, List.map_cons, List.map_nil, List.sum_cons, List.sum_nil, Option.toList_some, Option.toList_none, List.cons_append, List.nil_append, List.length_cons, List.length_nil, List.getD_cons_succ, List.getD_cons_zero, List.set_cons_succ, List.set_cons_zero, Nat.reduceAdd, Nat.reduceLT, Nat.reduceLeDiff, Nat.zero_le, Nat.zero_add, Nat.add_zero]
  refine bi_puts (i := 43) B2 S (by decide) (by simp only [List.nil_append, List.length_append]; omega) (fun h3 B3 => ?_)
  have X3 := fx B3
  simp only [k_67_36, k_67_36N, k_67_40, k_67_40N, k_67_37, k_67_41, k_67_44, okG_iff X3, fld_of X3, B3.ov, am_cat, am_kill, Value.category, List.map_cons, List.map_nil, List.sum_cons, List.sum_nil, Option.toList_some, Option.toList_none, List.cons_append, List.nil_append, List.length_cons, List.length_nil, List.getD_cons_succ, List.getD_cons_zero, List.set_cons_succ, List.set_cons_zero, Nat.reduceAdd, Nat.reduceLT, Nat.reduceLeDiff, Nat.zero_le, Nat.zero_add, Nat.add_zero]
  refine bi_putc B3 C2 (by decide) n2 (by simp only [List.nil_append, List.length_append]; omega) (fun h4 B4 => ?_)
  have X4 := fx B4
  simp only [k_67_47, k_67_47N, k_67_48, k_67_51, k_67_53, okG_iff X4, fld_of X4, B4.ov, am_cat, am_kill, Value.category, List.map_cons, List.map_nil, List.sum_cons, List.sum_nil, Option.toList_some, Option.toList_none, List.cons_append, List.nil_append, List.length_cons, List.length_nil, List.getD_cons_succ, List.getD_cons_zero, List.set_cons_succ, List.set_cons_zero, Nat.reduceAdd, Nat.reduceLT, Nat.reduceLeDiff, Nat.zero_le, Nat.zero_add, Nat.add_zero]
  refine bi_puts (i := 44) B4 S (by decide) (by simp only [List.nil_append, List.length_append]; omega) (fun h5 B5 => ?_)
  have X5 := fx B5
  simp only [k_67_56, k_67_56N, k_67_60, k_67_60N, k_67_57, k_67_61, k_67_64, okG_iff X5, fld_of X5, B5.ov, am_cat, am_kill, Value.category, List.map_cons, List.map_nil, List.sum_cons, List.sum_nil, Option.toList_some, Option.toList_none, List.cons_append, List.nil_append, List.length_cons, List.length_nil, List.getD_cons_succ, List.getD_cons_zero, List.set_cons_succ, List.set_cons_zero, Nat.reduceAdd, Nat.reduceLT, Nat.reduceLeDiff, Nat.zero_le, Nat.zero_add, Nat.add_zero]
  refine bi_putc B5 C2 (by decide) n2 (by simp only [List.nil_append, List.length_append]; omega) (fun h6 B6 => ?_)
  have X6 := fx B6
  simp only [k_67_67, k_67_67N, k_67_68, k_67_71, k_67_73, okG_iff X6, fld_of X6, B6.ov, am_cat, am_kill, Value.category, List.map_cons, List.map_nil, List.sum_cons, List.sum_nil, Option.toList_some, Option.toList_none, List.cons_append, List.nil_append, List.length_cons, List.length_nil, List.getD_cons_succ, List.getD_cons_zero, List.set_cons_succ, List.set_cons_zero, Nat.reduceAdd, Nat.reduceLT, Nat.reduceLeDiff, Nat.zero_le, Nat.zero_add, Nat.add_zero]
  refine bi_puts (i := 45) B6 S (by decide) (by simp only [List.nil_append, List.length_append]; omega) (fun h7 B7 => ?_)
  simp only [k_67_76, am_cat, am_kill, Value.category, List.map_cons, List.map_nil, List.sum_cons, List.sum_nil, Option.toList_some, Option.toList_none, List.cons_append, List.nil_append, List.length_cons, List.length_nil, List.getD_cons_succ, List.getD_cons_zero, List.set_cons_succ, List.set_cons_zero, Nat.reduceAdd, Nat.reduceLT, Nat.reduceLeDiff, Nat.zero_le, Nat.zero_add, Nat.add_zero]
  refine K h7 ?_
  simp only [List.append_assoc, List.nil_append] at B7
  exact B7
end ASR
