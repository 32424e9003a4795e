/-! NUMBERS -/
def decK : Nat → Nat → List Int32
  | 0, m => [nI (48 + m / 10 ^ 0 % 10)]
  | k + 1, m => nI (48 + m / 10 ^ (k + 1) % 10) :: decK k m
def ld : Nat → Nat → Nat → Nat
  | 0, k, _ => k
  | f + 1, k, m => if 9 < m / 10 ^ k then ld f (k + 1) m else k
def num (n : Int) : List Int32 := (if n < 0 then [45] else []) ++ decK (ld 18 0 n.natAbs) n.natAbs
theorem decK_len (k m : Nat) : (decK k m).length = k + 1 := by
  induction k with
  | zero => rfl
  | succ k ih => show (decK k m).length + 1 = _; omega
theorem ld_le : ∀ f k m, ld f k m ≤ k + f := by
  intro f
  induction f with
  | zero => intro k m; exact Nat.le_refl _
  | succ f ih =>
    intro k m
    unfold ld
    split
    · have := ih (k + 1) m
      omega
    · omega
theorem num_len (n : Int) : (num n).length ≤ 20 := by
  have := ld_le 18 0 n.natAbs
  unfold num
  rw [List.length_append, decK_len]
  split
  · show 1 + _ ≤ _
    omega
  · show 0 + _ ≤ _
    omega
theorem p10_lt {k : Nat} (h : k ≤ 18) : 10 ^ k < 2 ^ 63 := Nat.lt_of_le_of_lt (Nat.pow_le_pow_right (by decide) h) (by decide)
theorem p10_pos (k : Nat) : 0 < 10 ^ k := Nat.pow_pos (by decide)
theorem lN_ne0 {b : Nat} (h0 : 0 < b) (hb : b < 2 ^ 63) : ¬ lN b = 0 := fun e => by
  have := (pk_lEQ (b := 0) hb (by decide)).mp e
  omega
theorem sdiv_toInt (n : Int64) {b : Nat} (hb : b < 2 ^ 63) : (n / lN b).toInt = n.toInt.tdiv b := by
  have hne : lN b ≠ -1 := fun e => by
    have := congrArg Int64.toInt e
    rw [pk_lT hb, show (-1 : Int64).toInt = -1 by decide] at this
    omega
  rw [Int64.toInt_div_of_ne_right _ _ hne, pk_lT hb]
theorem srem_of (x : Int64) : x - x / 10 * 10 = Int64.ofInt (x.toInt.tmod 10) := by
  have h1 : x / 10 = Int64.ofInt (x.toInt.tdiv 10) := by
    rw [← Int64.ofInt_toInt (x / 10)]
    congr 1
    exact sdiv_toInt x (b := 10) (by decide)
  rw [h1, Int.tmod_def, Int64.ofInt_sub, Int64.ofInt_toInt, Int.mul_comm, Int64.ofInt_mul, show Int64.ofInt 10 = 10 by decide]
theorem dig_of {r : Int} (h : r.natAbs < 10) : (if 0 < Int64.ofInt r then Int64.ofInt r else -Int64.ofInt r).toInt32 = nI r.natAbs := by
  have key : ∀ j : Nat, j < 10 → ((if 0 < Int64.ofInt (j : Int) then Int64.ofInt (j : Int) else -Int64.ofInt (j : Int)).toInt32 = nI j) ∧ ((if 0 < Int64.ofInt (-(j : Int)) then Int64.ofInt (-(j : Int)) else -Int64.ofInt (-(j : Int))).toInt32 = nI j) := by decide +kernel
  obtain ⟨j, e | e⟩ : ∃ j : Nat, r = (j : Int) ∨ r = -(j : Int) := ⟨r.natAbs, Int.natAbs_eq r⟩
  · subst e
    have hj : ((j : Int)).natAbs = j := by omega
    rw [hj] at h ⊢
    exact (key j h).1
  · subst e
    have hj : (-(j : Int)).natAbs = j := by omega
    rw [hj] at h ⊢
    exact (key j h).2
theorem dig_eq (n : Int64) {k : Nat} (hk : k ≤ 18) : (48 : Int32) + (if 0 < n / lN (10 ^ k) - n / lN (10 ^ k) / 10 * 10 then n / lN (10 ^ k) - n / lN (10 ^ k) / 10 * 10 else -(n / lN (10 ^ k) - n / lN (10 ^ k) / 10 * 10)).toInt32 = nI (48 + n.toInt.natAbs / 10 ^ k % 10) := by
  rw [srem_of, dig_of (by rw [Int.natAbs_tmod]; exact Nat.mod_lt _ (by decide)), Int.natAbs_tmod, sdiv_toInt n (p10_lt hk), Int.natAbs_tdiv]
  exact nI_add 48 _
theorem ite_two {p q r A B : Prop} [Decidable p] [Decidable q] [Decidable r] (h : r ↔ p ∨ q) : (if p then A else if q then A else B) ↔ if r then A else B := by
  by_cases hp : p
  · rw [if_pos hp, if_pos (h.mpr (Or.inl hp))]
  · by_cases hq : q
    · rw [if_neg hp, if_pos hq, if_pos (h.mpr (Or.inr hq))]
    · rw [if_neg hp, if_neg hq, if_neg (fun c => (h.mp c).elim hp hq)]
theorem sp_pn_lead {d a : Nat} {n : Int64} {h : AH} {Q : Option Value → AH → Prop} : ∀ (f k : Nat), k + f = 18 → (wp d 47 17 [some (.ref a), some (.long n), none, some (.long (lN (10 ^ k))), none, some (.int (nI (k + 1)))] [] h Q ↔ wp d 47 56 [some (.ref a), some (.long n), none, some (.long (lN (10 ^ ld f k n.toInt.natAbs))), none, some (.int (nI (ld f k n.toInt.natAbs + 1)))] [] h Q) := by
  intro f
  induction f with
  | zero =>
    intro k hk
    obtain rfl : k = 18 := by omega
    have e1 : ¬ nI (18 + 1) < 19 := by decide
    simp only [k_47_17, k_47_19, k_47_21, e1, if_false]
    exact Iff.rfl
  | succ f ih =>
    intro k hk
    have hk1 : k ≤ 18 := by omega
    have e1 : nI (k + 1) < 19 := nI_lt (b := 19) (by omega) (by omega)
    have hy : ¬ lN (10 ^ k) = 0 := lN_ne0 (p10_pos k) (p10_lt hk1)
    have e3 : (9 < n / lN (10 ^ k)) ↔ 9 < n.toInt.tdiv (10 ^ k : Nat) := by rw [Int64.lt_iff_toInt_lt, sdiv_toInt n (p10_lt hk1), show (9 : Int64).toInt = 9 by decide]
    have e4 : (n / lN (10 ^ k) < Int64.ofNat 18446744073709551607) ↔ n.toInt.tdiv (10 ^ k : Nat) < -9 := by rw [Int64.lt_iff_toInt_lt, sdiv_toInt n (p10_lt hk1), show (Int64.ofNat 18446744073709551607).toInt = -9 by decide]
    have e5 : (n.toInt.tdiv (10 ^ k : Nat)).natAbs = n.toInt.natAbs / 10 ^ k := Int.natAbs_tdiv _ _
    have e6 : lN (10 ^ k) * 10 = lN (10 ^ (k + 1)) := lN_mul (10 ^ k) 10
    have e7 : ld (f + 1) k n.toInt.natAbs = if 9 < n.toInt.natAbs / 10 ^ k then ld f (k + 1) n.toInt.natAbs else k := rfl
    simp only [k_47_17, k_47_19, k_47_21, k_47_24, k_47_25, k_47_26 hy, k_47_30, k_47_31, k_47_34, k_47_35, k_47_27, k_47_36 hy, k_47_40, k_47_41, k_47_37, lg_cmp_gt, lg_cmp_lt, e1, e3, e4, if_true]
    generalize n.toInt.tdiv (10 ^ k : Nat) = q at e5
    rw [ite_two (r := 9 < n.toInt.natAbs / 10 ^ k) (by rw [← e5]; omega), e7]
    by_cases c : 9 < n.toInt.natAbs / 10 ^ k
    · simp only [c, if_true, k_47_44, k_47_48, k_47_49, k_47_50, k_47_53, k_47_45, e6, nI_1, am_cat, am_kill, Value.category, List.map_cons, List.map_nil, List.sum_cons, List.sum_nil, Option.toList_some, Option.toList_none, List.cons_append, List.nil_append, List.length_cons, List.length_nil, List.getD_cons_succ, List.getD_cons_zero, List.set_cons_succ, List.set_cons_zero, Nat.reduceAdd, Nat.reduceLT, Nat.reduceLeDiff, Nat.zero_le, Nat.zero_add, Nat.add_zero]
      exact ih (k + 1) (by omega)
    · simp only [c, if_false]
theorem sp_pn_one {d a ar k : Nat} {n : Int64} {h : AH} {t : List Int32} {cs : List Value} {o5 : Option Value} {Q : Option Value → AH → Prop} (hk : k ≤ 18) (H : Chs h a ar t cs) (hb : t.length < 2 ^ 20) (K : App h a ar t cs [nI (48 + n.toInt.natAbs / 10 ^ k % 10)] (fun h' => wp (d + 2) 47 56 [some (.ref a), some (.long n), none, some (.long (lN (10 ^ k / 10))), none, o5] [] h' Q)) : wp (d + 2) 47 56 [some (.ref a), some (.long n), none, some (.long (lN (10 ^ k))), none, o5] [] h Q := by
  have hy : ¬ lN (10 ^ k) = 0 := lN_ne0 (p10_pos k) (p10_lt hk)
  have h10 : ¬ (10 : Int64) = 0 := by decide
  have ep : (0 : Int64) < lN (10 ^ k) := (pk_lLT (a := 0) (by decide) (p10_lt hk)).mpr (p10_pos k)
  have e8 : lN (10 ^ k) / 10 = lN (10 ^ k / 10) := pk_lDiv (b := 10) (p10_lt hk) (by decide) (by decide)
  simp only [k_47_56, k_47_57, k_47_58, k_47_59, k_47_62, k_47_62N, k_47_63, k_47_65, k_47_66, k_47_67 hy, k_47_68, k_47_71 h10, k_47_75, k_47_76, k_47_72, k_47_77, lg_cmp_gt, ep, if_true, dig_eq n hk, okV_iff H.1, am_cat, am_kill, Value.category, List.map_cons, List.map_nil, List.sum_cons, List.sum_nil, Option.toList_some, Option.toList_none, List.cons_append, List.nil_append, List.length_cons, List.length_nil, List.getD_cons_succ, List.getD_cons_zero, List.set_cons_succ, List.set_cons_zero, Nat.reduceAdd, Nat.reduceLT, Nat.reduceLeDiff, Nat.zero_le, Nat.zero_add, Nat.add_zero]
  refine sp_put H (chr_nI (by omega)) hb (fun h' ar' cs' H' E' => ?_)
  simp only [k_47_80, k_47_81, k_47_84 h10, k_47_85, k_47_86, e8, am_cat, am_kill, Value.category, List.map_cons, List.map_nil, List.sum_cons, List.sum_nil, Option.toList_some, Option.toList_none, List.cons_append, List.nil_append, List.length_cons, List.length_nil, List.getD_cons_succ, List.getD_cons_zero, List.set_cons_succ, List.set_cons_zero, Nat.reduceAdd, Nat.reduceLT, Nat.reduceLeDiff, Nat.zero_le, Nat.zero_add, Nat.add_zero]
  exact K h' ar' cs' H' E'
theorem sp_pn_dig {d a : Nat} {n : Int64} {o5 : Option Value} {Q : Option Value → AH → Prop} : ∀ (k : Nat) (h : AH) (ar : Nat) (t : List Int32) (cs : List Value), k ≤ 18 → Chs h a ar t cs → t.length + k < 2 ^ 20 → App h a ar t cs (decK k n.toInt.natAbs) (Q none) → wp (d + 2) 47 56 [some (.ref a), some (.long n), none, some (.long (lN (10 ^ k))), none, o5] [] h Q := by
  intro k
  induction k with
  | zero =>
    intro h ar t cs hk H hb K
    refine sp_pn_one (k := 0) hk H (by omega) (fun h' ar' cs' H' E' => ?_)
    have e0 : ¬ (0 : Int64) < lN (10 ^ 0 / 10) := by decide
    simp only [k_47_56, k_47_57, k_47_58, k_47_59, k_47_89, lg_cmp_gt, e0, if_false]
    exact K h' ar' cs' H' E'
  | succ k ih =>
    intro h ar t cs hk H hb K
    refine sp_pn_one (k := k + 1) hk H (by omega) (fun h' ar' cs' H' E' => ?_)
    rw [show 10 ^ (k + 1) / 10 = 10 ^ k by rw [Nat.pow_succ, Nat.mul_div_cancel _ (by decide)]]
    exact ih h' ar' _ cs' (by omega) H' (by rw [List.length_append]; show t.length + 1 + k < _; omega) (App.step (u := [nI (48 + n.toInt.natAbs / 10 ^ (k + 1) % 10)]) K E')
theorem lt0_toInt (n : Int64) : n < 0 ↔ n.toInt < 0 := by rw [Int64.lt_iff_toInt_lt, Int64.toInt_zero]
theorem sp_putNumber {d a ar : Nat} {n : Int64} {h : AH} {t : List Int32} {cs : List Value} {Q : Option Value → AH → Prop} (H : Chs h a ar t cs) (hb : t.length < 2 ^ 19) (K : App h a ar t cs (num n.toInt) (Q none)) : wp (d + 2) 47 0 [some (.ref a), some (.long n), none, none, none, none] [] h Q := by
  have fin : ∀ (h : AH) (ar : Nat) (t : List Int32) (cs : List Value), Chs h a ar t cs → t.length < 2 ^ 19 + 1 → App h a ar t cs (decK (ld 18 0 n.toInt.natAbs) n.toInt.natAbs) (Q none) → wp (d + 2) 47 12 [some (.ref a), some (.long n), none, none, none, none] [] h Q := by
    intro h ar t cs H hb K
    simp only [k_47_12, k_47_13, k_47_14, k_47_15, am_cat, am_kill, Value.category, List.map_cons, List.map_nil, List.sum_cons, List.sum_nil, Option.toList_some, Option.toList_none, List.cons_append, List.nil_append, List.length_cons, List.length_nil, List.getD_cons_succ, List.getD_cons_zero, List.set_cons_succ, List.set_cons_zero, Nat.reduceAdd, Nat.reduceLT, Nat.reduceLeDiff, Nat.zero_le, Nat.zero_add, Nat.add_zero]
    have hl := ld_le 18 0 n.toInt.natAbs
    refine (sp_pn_lead (n := n) 18 0 rfl).mpr ?_
    exact sp_pn_dig _ h ar t cs (by omega) H (by omega) K
  simp only [k_47_0, k_47_1, k_47_2, k_47_3, lg_cmp_lt, lt0_toInt, am_cat, am_kill, Value.category, List.map_cons, List.map_nil, List.sum_cons, List.sum_nil, Option.toList_some, Option.toList_none, List.cons_append, List.nil_append, List.length_cons, List.length_nil, List.getD_cons_succ, List.getD_cons_zero, List.set_cons_succ, List.set_cons_zero, Nat.reduceAdd, Nat.reduceLT, Nat.reduceLeDiff, Nat.zero_le, Nat.zero_add, Nat.add_zero]
  unfold num at K
  by_cases c : n.toInt < 0
  · rw [if_pos c] at K
    simp only [c, if_true, k_47_6, k_47_6N, k_47_7, k_47_9, okV_iff H.1, am_cat, am_kill, Value.category, List.map_cons, List.map_nil, List.sum_cons, List.sum_nil, Option.toList_some, Option.toList_none, List.cons_append, List.nil_append, List.length_cons, List.length_nil, List.getD_cons_succ, List.getD_cons_zero, List.set_cons_succ, List.set_cons_zero, Nat.reduceAdd, Nat.reduceLT, Nat.reduceLeDiff, Nat.zero_le, Nat.zero_add, Nat.add_zero]
    refine sp_put H ⟨by decide, by decide⟩ (by omega) (fun h' ar' cs' H' E' => ?_)
    exact fin h' ar' _ cs' H' (by rw [List.length_append]; show t.length + 1 < _; omega) (App.step (u := [45]) K E')
  · rw [if_neg c, List.nil_append] at K
    simp only [c, if_false]
    exact fin h ar t cs H (by omega) K
theorem sp_cinit {d : Nat} {h : AH} {a n : Nat} {v0 v1 : Value} {Q : Option Value → AH → Prop} (h1 : h[a]? = some (.inr 1, [v0, v1])) (hs : sN ≤ a) (hn : n < 2 ^ 20) : wp (d + 1) 2 0 [some (.ref a), some (.int (nI n))] [] h Q ↔ Q none ((h ++ [((.inl .char, List.replicate n (.int 0)) : AC)]).set a (.inr 1, [.ref h.length, v1])) := by
  have e3 : (nI n).toNatClampNeg = n := nI_clamp (by omega)
  have e1 : ¬ nI n < 0 := nI_pos (by omega)
  have e2 : (nI n).toNatClampNeg * 2 ≤ 536870912 := by rw [e3]; omega
  have g1 := get_app (x := ((.inl .char, List.replicate n (.int 0)) : AC)) h1
  simp only [k_2_0, k_2_0N, k_2_4, k_2_4N, k_2_5, k_2_1, am_cat, am_kill, Value.category, List.map_cons, List.map_nil, List.sum_cons, List.sum_nil, Option.toList_some, Option.toList_none, List.cons_append, List.nil_append, List.length_cons, List.length_nil, List.getD_cons_succ, List.getD_cons_zero, List.set_cons_succ, List.set_cons_zero, Nat.reduceAdd, Nat.reduceLT, Nat.reduceLeDiff, Nat.zero_le, Nat.zero_add, Nat.add_zero]
  rw [k_2_6 e1 e2, e3]
  simp only [k_2_11, k_2_8, okG_iff g1, hput_of g1, hs, am_cat, am_kill, Value.category, List.map_cons, List.map_nil, List.sum_cons, List.sum_nil, Option.toList_some, Option.toList_none, List.cons_append, List.nil_append, List.length_cons, List.length_nil, List.getD_cons_succ, List.getD_cons_zero, List.set_cons_succ, List.set_cons_zero, Nat.reduceAdd, Nat.reduceLT, Nat.reduceLeDiff, Nat.zero_le, Nat.zero_add, Nat.add_zero]
