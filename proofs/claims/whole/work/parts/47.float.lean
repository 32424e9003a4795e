/-! THE ROUNDING TO 24 DIGITS -/
def nrst (m d : Nat) : Nat := if 2 * (m % d) < d then m / d else if d < 2 * (m % d) then m / d + 1 else m / d + m / d % 2
def rndN (m : Nat) : Nat := nrst m (2 ^ (m.log2 - 23)) * 2 ^ (m.log2 - 23)
theorem nrst_one (m : Nat) : nrst m 1 = m := by
  unfold nrst
  rw [Nat.mod_one, if_pos (by decide), Nat.div_one]
theorem nrst_le {m d b : Nat} (hd : 0 < d) (h : m < b * d) : nrst m d ≤ b := by
  have h1 : m / d < b := (Nat.div_lt_iff_lt_mul hd).mpr h
  unfold nrst
  split
  · omega
  split
  · omega
  · omega
theorem l2_lt (m : Nat) : m < 2 ^ (m.log2 + 1) := Nat.lt_log2_self
theorem l2_le {m n : Nat} (h : m < 2 ^ (n + 1)) : m.log2 ≤ n := by
  by_cases h0 : m = 0
  · subst h0
    have : Nat.log2 0 = 0 := by simp
    omega
  · have h1 := Nat.log2_self_le h0
    have h2 : 2 ^ m.log2 < 2 ^ (n + 1) := Nat.lt_of_le_of_lt h1 h
    have := (Nat.pow_lt_pow_iff_right (a := 2) (by decide)).mp h2
    omega
theorem rndN_le {m : Nat} (h : m < 2 ^ 32) : rndN m ≤ 2 ^ 33 := by
  have hl := l2_le (n := 31) h
  have hm := l2_lt m
  unfold rndN
  by_cases c : 23 ≤ m.log2
  · have h1 : nrst m (2 ^ (m.log2 - 23)) ≤ 2 ^ 24 := nrst_le (Nat.two_pow_pos _) (by rw [← Nat.pow_add, show 24 + (m.log2 - 23) = m.log2 + 1 by omega]; exact hm)
    have h2 : 2 ^ (m.log2 - 23) ≤ 2 ^ 9 := Nat.pow_le_pow_right (by decide) (by omega)
    exact Nat.le_trans (Nat.mul_le_mul h1 h2) (by decide)
  · rw [show m.log2 - 23 = 0 by omega, Nat.pow_zero, nrst_one, Nat.mul_one]
    omega
theorem fp_rr (s : Bool) (m : Nat) (hm : m < 2 ^ 40) : ∃ (c : Nat) (q : Int), Jvm.FP.Core.roundRatio Jvm.FP.Core.b32 s m 1 0 = .fin s c q ∧ c * 2 ^ q.toNat / 2 ^ (-q).toNat = rndN m := by
  by_cases h0 : m = 0
  · subst h0
    refine ⟨0, Jvm.FP.Core.b32.qmin, ?_, ?_⟩
    · unfold Jvm.FP.Core.roundRatio
      rw [if_pos rfl]
    · rw [Nat.zero_mul, Nat.zero_div]
      have e : Nat.log2 0 = 0 := by simp
      unfold rndN
      rw [e]
      rfl
  · have hl2 := l2_le (n := 39) hm
    have hlt := l2_lt m
    have hle := Nat.log2_self_le h0
    have e1 : Nat.log2 1 = 0 := by first | rfl | decide | exact Nat.log2_one
    have hl : Jvm.FP.Core.leading m 1 = (m.log2 : Int) := by
      unfold Jvm.FP.Core.leading
      rw [e1]
      dsimp only
      rw [show ((m.log2 : Int) - ((0 : Nat) : Int)) = (m.log2 : Int) by omega, Int.toNat_natCast, show (-(m.log2 : Int)).toNat = 0 by omega, Nat.pow_zero, Nat.mul_one, Nat.one_mul, if_pos hle]
    have hq : Jvm.FP.Core.quantum Jvm.FP.Core.b32 m 1 0 = (m.log2 : Int) - 23 := by
      unfold Jvm.FP.Core.quantum
      rw [hl, show Jvm.FP.Core.b32.qmin = -149 by decide, show ((Jvm.FP.Core.b32.p : Nat) : Int) = 24 by rfl]
      omega
    have hmax : Jvm.FP.Core.b32.qmax = 104 := by decide
    have htl : Jvm.FP.Core.b32.tails = 2 ^ 23 := by decide
    have hp : Jvm.FP.Core.b32.p = 24 := rfl
    unfold Jvm.FP.Core.roundRatio
    rw [if_neg h0, hq]
    unfold Jvm.FP.Core.roundAt Jvm.FP.Core.settle Jvm.FP.Core.bound Jvm.FP.Core.unitsNum Jvm.FP.Core.unitsDen
    rw [hp, hmax, htl]
    by_cases c : 23 ≤ m.log2
    · obtain ⟨e, he⟩ : ∃ e : Nat, m.log2 = e + 23 := ⟨m.log2 - 23, by omega⟩
      rw [show ((m.log2 : Int) - 23) = (e : Int) by omega, show (0 - (e : Int)).toNat = 0 by omega, show ((e : Int) - 0).toNat = e by omega, Nat.pow_zero, Nat.mul_one, Nat.one_mul]
      have en : Jvm.FP.Core.nearest m (2 ^ e) = nrst m (2 ^ e) := rfl
      rw [en]
      have er : rndN m = nrst m (2 ^ e) * 2 ^ e := by
        unfold rndN
        rw [show m.log2 - 23 = e by omega]
      have hc : nrst m (2 ^ e) ≤ 2 ^ 24 := nrst_le (Nat.two_pow_pos _) (by rw [← Nat.pow_add, show 24 + e = m.log2 + 1 by omega]; exact hlt)
      by_cases c2 : nrst m (2 ^ e) < 2 ^ 24
      · rw [if_pos c2, if_pos (by omega)]
        refine ⟨_, _, rfl, ?_⟩
        rw [Int.toNat_natCast, show (-(e : Int)).toNat = 0 by omega, Nat.pow_zero, Nat.div_one, er]
      · rw [if_neg c2, if_pos (by omega)]
        refine ⟨_, _, rfl, ?_⟩
        rw [show ((e : Int) + 1).toNat = e + 1 by omega, show (-((e : Int) + 1)).toNat = 0 by omega, Nat.pow_zero, Nat.div_one, er, show nrst m (2 ^ e) = 2 ^ 24 by omega, Nat.pow_succ]
        omega
    · obtain ⟨j, hj⟩ : ∃ j : Nat, m.log2 + j = 23 := ⟨23 - m.log2, by omega⟩
      rw [show (0 - ((m.log2 : Int) - 23)).toNat = j by omega, show (((m.log2 : Int) - 23) - 0).toNat = 0 by omega, Nat.pow_zero, Nat.mul_one]
      have en : Jvm.FP.Core.nearest (m * 2 ^ j) 1 = m * 2 ^ j := nrst_one _
      have hN : m * 2 ^ j < 2 ^ 24 := by
        have : m * 2 ^ j < 2 ^ (m.log2 + 1) * 2 ^ j := Nat.mul_lt_mul_of_pos_right hlt (Nat.two_pow_pos _)
        rwa [← Nat.pow_add, show m.log2 + 1 + j = 24 by omega] at this
      rw [en, if_pos hN, if_pos (by omega)]
      refine ⟨_, _, rfl, ?_⟩
      rw [show ((m.log2 : Int) - 23).toNat = 0 by omega, show (-((m.log2 : Int) - 23)).toNat = j by omega, Nat.pow_zero, Nat.mul_one, Nat.mul_div_cancel _ (Nat.two_pow_pos _)]
      unfold rndN
      rw [show m.log2 - 23 = 0 by omega, Nat.pow_zero, nrst_one, Nat.mul_one]
theorem rnd_eq (x : Int32) : (rnd x).toInt = if x.toInt < 0 then -((rndN x.toInt.natAbs : Nat) : Int) else ((rndN x.toInt.natAbs : Nat) : Int) := by
  have h1 := x.toInt_lt
  have h2 := x.le_toInt
  have hb := rndN_le (m := x.toInt.natAbs) (by omega)
  obtain ⟨c, q, e1, e2⟩ := fp_rr (decide (x.toInt < 0)) x.toInt.natAbs (by omega)
  have ev : Jvm.FP.Core.val32 (Jvm.FP.Core.i2f x) = .fin (decide (x.toInt < 0)) c q := (Jvm.FP.Core.val32_i2f x).trans e1
  have e3 : rnd x = Int64.ofInt (Jvm.FP.Core.toInt (-2 ^ 63) (2 ^ 63 - 1) (Jvm.FP.Core.val32 (Jvm.FP.Core.i2f x))) := rfl
  have e4 : Jvm.FP.Core.toInt (-2 ^ 63) (2 ^ 63 - 1) (.fin (decide (x.toInt < 0)) c q) = max (-2 ^ 63) (min (2 ^ 63 - 1) (Jvm.FP.Core.signed (decide (x.toInt < 0)) (c * 2 ^ q.toNat / 2 ^ (-q).toNat))) := rfl
  rw [e3, ev, e4, e2]
  by_cases n : x.toInt < 0
  · rw [if_pos n, show Jvm.FP.Core.signed (decide (x.toInt < 0)) (rndN x.toInt.natAbs) = -((rndN x.toInt.natAbs : Nat) : Int) by unfold Jvm.FP.Core.signed; rw [if_pos (by simp [n])]]
    rw [Int64.toInt_ofInt_of_le (by omega) (by omega)]
    omega
  · rw [if_neg n, show Jvm.FP.Core.signed (decide (x.toInt < 0)) (rndN x.toInt.natAbs) = ((rndN x.toInt.natAbs : Nat) : Int) by unfold Jvm.FP.Core.signed; rw [if_neg (by simp; omega)]]
    rw [Int64.toInt_ofInt_of_le (by omega) (by omega)]
    omega
theorem rnd_b : RndB := by
  intro x
  have h1 := x.toInt_lt
  have h2 := x.le_toInt
  have hb := rndN_le (m := x.toInt.natAbs) (by omega)
  rw [rnd_eq]
  split <;> omega
theorem rnd_lN (x : Int32) : rnd x = if x.toInt < 0 then -lN (rndN x.toInt.natAbs) else lN (rndN x.toInt.natAbs) := by
  have h1 := x.toInt_lt
  have h2 := x.le_toInt
  have hb := rndN_le (m := x.toInt.natAbs) (by omega)
  apply Int64.toInt_inj.mp
  rw [rnd_eq]
  split
  · have e : -lN (rndN x.toInt.natAbs) = Int64.ofInt (-((rndN x.toInt.natAbs : Nat) : Int)) := by
      rw [Int64.ofInt_neg]
      congr 1
    rw [e, Int64.toInt_ofInt_of_le (by omega) (by omega)]
  · rw [pk_lT (by omega)]
theorem nr_loop {d m : Nat} {v : Int64} {h : AH} {Q : Option Value → AH → Prop} (hm : m < 2 ^ 32) : ∀ (f j : Nat), j + f = m.log2 - 23 → (wp d 119 16 [some (.ref 135), some (.long v), none, some (.long (lN m)), none, some (.long (lN (2 ^ j))), none, none, none, none, none] [] h Q ↔ wp d 119 38 [some (.ref 135), some (.long v), none, some (.long (lN m)), none, some (.long (lN (2 ^ (m.log2 - 23)))), none, none, none, none, none] [] h Q) := by
  have hl := l2_le (n := 31) hm
  have hlt := l2_lt m
  have pp : ∀ j, j ≤ 31 → 2 ^ j < 2 ^ 63 := fun j hj => Nat.pow_lt_pow_right (by decide) (by omega)
  intro f
  induction f with
  | zero =>
    intro j hj
    obtain rfl : j = m.log2 - 23 := by omega
    have hy : ¬ lN (2 ^ (m.log2 - 23)) = 0 := lN_ne0 (Nat.two_pow_pos _) (pp _ (by omega))
    have e2 : lN m / lN (2 ^ (m.log2 - 23)) = lN (m / 2 ^ (m.log2 - 23)) := pk_lDiv (by omega) (Nat.two_pow_pos _) (pp _ (by omega))
    have hq : m / 2 ^ (m.log2 - 23) < 16777216 := by
      rw [Nat.div_lt_iff_lt_mul (Nat.two_pow_pos _), show 16777216 = 2 ^ 24 from rfl, ← Nat.pow_add]
      exact Nat.lt_of_lt_of_le hlt (Nat.pow_le_pow_right (by decide) (by omega))
    have e3 : lN (m / 2 ^ (m.log2 - 23)) < 16777216 := (pk_lLT (b := 16777216) (by omega) (by decide)).mpr hq
    simp only [k_119_16, k_119_17, k_119_19 hy, k_119_23, k_119_24, k_119_20, e2, lg_cmp_lt, e3, if_true]
  | succ f ih =>
    intro j hj
    have hy : ¬ lN (2 ^ j) = 0 := lN_ne0 (Nat.two_pow_pos _) (pp _ (by omega))
    have e2 : lN m / lN (2 ^ j) = lN (m / 2 ^ j) := pk_lDiv (by omega) (Nat.two_pow_pos _) (pp _ (by omega))
    have h0 : m ≠ 0 := fun e => by
      rw [e, show Nat.log2 0 = 0 by simp] at hj
      omega
    have hle := Nat.log2_self_le h0
    have hq : 16777216 ≤ m / 2 ^ j := by
      rw [Nat.le_div_iff_mul_le (Nat.two_pow_pos _), show 16777216 = 2 ^ 24 from rfl, ← Nat.pow_add]
      exact Nat.le_trans (Nat.pow_le_pow_right (by decide) (by omega)) hle
    have hd : m / 2 ^ j ≤ m := Nat.div_le_self _ _
    have e3 : ¬ lN (m / 2 ^ j) < 16777216 := fun q => by
      have := (pk_lLT (b := 16777216) (by omega) (by decide)).mp q
      omega
    have e6 : lN (2 ^ j) * 2 = lN (2 ^ (j + 1)) := lN_mul (2 ^ j) 2
    simp only [k_119_16, k_119_17, k_119_19 hy, k_119_23, k_119_24, k_119_20, e2, lg_cmp_lt, e3, if_false]
    simp only [k_119_27, k_119_32, k_119_33, k_119_35, k_119_29, e6, am_cat, am_kill, Value.category, List.map_cons, List.map_nil, List.sum_cons, List.sum_nil, Option.toList_some, Option.toList_none, List.cons_append, List.nil_append, List.length_cons, List.length_nil, List.getD_cons_succ, List.getD_cons_zero, List.set_cons_succ, List.set_cons_zero, Nat.reduceAdd, Nat.reduceLT, Nat.reduceLeDiff, Nat.zero_le, Nat.zero_add, Nat.add_zero]
    exact ih (j + 1) (by omega)
theorem sp_narrow {d : Nat} {x : Int32} {h : AH} {Q : Option Value → AH → Prop} : wp d 119 0 [some (.ref 135), some (.long x.toInt64), none, none, none, none, none, none, none, none, none] [] h Q ↔ Q (some (.long (rnd x))) h := by
  have h1 := x.toInt_lt
  have h2 := x.le_toInt
  have ev : x.toInt64.toInt = x.toInt := Int32.toInt_toInt64 x
  have hb := rndN_le (m := x.toInt.natAbs) (by omega)
  have er := rnd_lN x
  have hm : x.toInt.natAbs < 2 ^ 32 := by omega
  have hl := l2_le (n := 31) hm
  have main : wp d 119 12 [some (.ref 135), some (.long x.toInt64), none, none, none, none, none, none, none, none, none] [.long (lN x.toInt.natAbs)] h Q ↔ Q (some (.long (rnd x))) h := by
    simp only [k_119_12, k_119_13, k_119_14, am_cat, am_kill, Value.category, List.map_cons, List.map_nil, List.sum_cons, List.sum_nil, Option.toList_some, Option.toList_none, List.cons_append, List.nil_append, List.length_cons, List.length_nil, List.getD_cons_succ, List.getD_cons_zero, List.set_cons_succ, List.set_cons_zero, Nat.reduceAdd, Nat.reduceLT, Nat.reduceLeDiff, Nat.zero_le, Nat.zero_add, Nat.add_zero]
    rw [show (1 : Int64) = lN (2 ^ 0) from rfl, nr_loop hm (x.toInt.natAbs.log2 - 23) 0 (by omega)]
    have er2 : rndN x.toInt.natAbs = nrst x.toInt.natAbs (2 ^ (x.toInt.natAbs.log2 - 23)) * 2 ^ (x.toInt.natAbs.log2 - 23) := rfl
    have hu : 2 ^ (x.toInt.natAbs.log2 - 23) < 2 ^ 63 := Nat.pow_lt_pow_right (by decide) (by omega)
    have hu0 : 0 < 2 ^ (x.toInt.natAbs.log2 - 23) := Nat.two_pow_pos _
    generalize 2 ^ (x.toInt.natAbs.log2 - 23) = U at er2 hu hu0
    rw [er2] at er
    generalize hM : x.toInt.natAbs = m at er hm
    have hy : ¬ lN U = 0 := lN_ne0 hu0 hu
    have h20 : ¬ (2 : Int64) = 0 := by decide
    have hq : m / U ≤ m := Nat.div_le_self _ _
    have hr : m % U < U := Nat.mod_lt _ hu0
    have hr2 : m % U ≤ m := Nat.mod_le _ _
    have e2 : lN m / lN U = lN (m / U) := pk_lDiv (by omega) hu0 hu
    have e3 : lN m - lN (m / U) * lN U = lN (m % U) := by rw [← e2]; exact pk_lRem (by omega) hu0 hu
    have e4 : (2 : Int64) * lN (m % U) = lN (2 * (m % U)) := lN_mul 2 _
    have e5 : (lN U < lN (2 * (m % U))) ↔ U < 2 * (m % U) := pk_lLT hu (by omega)
    have e6 : (lN (2 * (m % U)) = lN U) ↔ 2 * (m % U) = U := pk_lEQ (by omega) hu
    have e7 : lN (m / U) - lN (m / U) / 2 * 2 = lN (m / U % 2) := pk_lRem (b := 2) (by omega) (by decide) (by decide)
    have e8 : (lN (m / U % 2) = 1) ↔ m / U % 2 = 1 := pk_lEQ (b := 1) (by omega) (by decide)
    have e9 : lN (m / U) + 1 = lN (m / U + 1) := lN_1 _
    have fin : ∀ c, c = nrst m U → (wp d 119 91 [some (.ref 135), some (.long x.toInt64), none, some (.long (lN m)), none, some (.long (lN U)), none, some (.long (lN c)), none, some (.long (lN (m % U))), none] [] h Q ↔ Q (some (.long (rnd x))) h) := by
      intro c hc
      simp only [k_119_91, k_119_92, k_119_93, k_119_94, lg_cmp_lt, lt0_toInt, ev]
      rw [er]
      by_cases n : x.toInt < 0
      · simp only [n, if_true, k_119_97, k_119_99, k_119_100, k_119_102, k_119_103, k_119_111, Int64.neg_mul, lN_mul, hc]
      · simp only [n, if_false, k_119_106, k_119_108, k_119_110, k_119_111, lN_mul, hc]
    simp only [k_119_38, k_119_39, k_119_41 hy, k_119_42, k_119_44, k_119_45, k_119_47 hy, k_119_48, k_119_53, k_119_55, k_119_56, k_119_58, k_119_59, k_119_65, k_119_67, k_119_68, k_119_70, k_119_71, k_119_74, k_119_50, k_119_62, k_119_76, k_119_79 h20, k_119_80, k_119_81, k_119_82, k_119_85, k_119_87, k_119_88, k_119_89, lg_cmp_gt, lg_cmp_eq, e2, e3, e4, e5, e6, e7, e8, e9, am_cat, am_kill, Value.category, List.map_cons, List.map_nil, List.sum_cons, List.sum_nil, Option.toList_some, Option.toList_none, List.cons_append, List.nil_append, List.length_cons, List.length_nil, List.getD_cons_succ, List.getD_cons_zero, List.set_cons_succ, List.set_cons_zero, Nat.reduceAdd, Nat.reduceLT, Nat.reduceLeDiff, Nat.zero_le, Nat.zero_add, Nat.add_zero]
    have n1 : nrst m U = if 2 * (m % U) < U then m / U else if U < 2 * (m % U) then m / U + 1 else m / U + m / U % 2 := rfl
    by_cases c1 : U < 2 * (m % U)
    · rw [if_pos c1]
      exact fin _ (by rw [n1, if_neg (by omega), if_pos c1])
    · rw [if_neg c1]
      by_cases c2 : 2 * (m % U) = U
      · rw [if_pos c2]
        by_cases c3 : m / U % 2 = 1
        · rw [if_pos c3]
          exact fin _ (by rw [n1, if_neg (by omega), if_neg c1, c3])
        · rw [if_neg c3]
          exact fin _ (by rw [n1, if_neg (by omega), if_neg c1]; omega)
      · rw [if_neg c2]
        exact fin _ (by rw [n1, if_pos (by omega)])
  simp only [k_119_0, k_119_1, k_119_2, k_119_3, lg_cmp_lt, lt0_toInt, ev]
  by_cases n : x.toInt < 0
  · have e1 := neg_lN (v := x.toInt64) (by rw [ev]; exact n) (by rw [ev]; omega)
    rw [ev] at e1
    simp only [n, if_true, k_119_6, k_119_7, k_119_8, e1]
    exact main
  · have e1 := pos_lN (v := x.toInt64) (by rw [ev]; exact n)
    rw [ev] at e1
    simp only [n, if_false, k_119_11]
    rw [← e1] at main
    exact main
theorem shl32 (x : Int32) : x.toInt64 * 4294967296 = x.toInt64 <<< ((32 : Int32).toInt64 &&& 63) := by
  apply Int64.toBitVec_inj.mp
  rw [Int64.toBitVec_mul]
  show x.toInt64.toBitVec * 4294967296#64 = x.toInt64.toBitVec <<< (((32 : Int32).toInt64 &&& 63).toBitVec.smod 64)
  rw [show (((32 : Int32).toInt64 &&& 63).toBitVec.smod 64) = 32#64 by decide]
  apply BitVec.eq_of_toNat_eq
  rw [BitVec.toNat_mul, BitVec.shiftLeft_eq', BitVec.toNat_shiftLeft, Nat.shiftLeft_eq]
  rfl
