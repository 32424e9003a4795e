/-! THE REFERENCE'S VALUES -/
theorem ne4 {c : Int32} {l : List Int32} (h : c ≠ 110) : c :: l ≠ sx 4 := fun e => by
  have e2 : sx 4 = 110 :: [117, 108, 108] := rfl
  rw [e2] at e
  injection e with e1 _
  exact h e1
theorem decK_hd (k m : Nat) : ∃ l, decK k m = nI (48 + m / 10 ^ k % 10) :: l := by
  cases k with
  | zero => exact ⟨[], rfl⟩
  | succ k => exact ⟨_, rfl⟩
theorem dg_ne (x : Nat) : nI (48 + x % 10) ≠ 110 := fun e => by
  have := (nI_eq (b := 110) (by omega) (by omega)).mp e
  omega
theorem num_hd (n : Int) : ∃ c l, num n = c :: l ∧ c ≠ 110 := by
  unfold num
  split
  · exact ⟨45, _, rfl, by decide⟩
  · obtain ⟨l, e⟩ := decK_hd (ld 18 0 n.natAbs) n.natAbs
    exact ⟨_, l, by rw [e]; rfl, dg_ne _⟩
theorem eig_hd (n : Int) : ∃ c l, eigL n = c :: l ∧ c ≠ 110 := by
  unfold eigL eigP
  split
  · exact ⟨45, _, rfl, by decide⟩
  · obtain ⟨c, l, e, hc⟩ := num_hd ((n.natAbs / 8 : Nat) : Int)
    exact ⟨c, _, by rw [e]; rfl, hc⟩
theorem litS_ne {D : List Int32} {c : Int32} {u : Nat} (hl : c ∈ sgl) (hT : c = 84 → ¬ nx D u < 0) : (litS D c u).1 ≠ sx 4 := by
  have hl : c = 90 ∨ c = 66 ∨ c = 67 ∨ c = 83 ∨ c = 73 ∨ c = 74 ∨ c = 70 ∨ c = 68 ∨ c = 84 := by simpa [sgl] using hl
  rcases hl with rfl | rfl | rfl | rfl | rfl | rfl | rfl | rfl | rfl
  · show (if nx D u &&& 1 = 0 then sx 18 else sx 17) ≠ sx 4
    split <;> decide
  · exact ne4 (l := _) (show (40 : Int32) ≠ 110 by decide)
  · exact ne4 (l := _) (show (39 : Int32) ≠ 110 by decide)
  · exact ne4 (l := _) (show (40 : Int32) ≠ 110 by decide)
  · show intL (nx D u) ≠ sx 4
    unfold intL
    split
    · decide
    · obtain ⟨c, l, e, hc⟩ := num_hd (nx D u).toInt
      rw [e]
      exact ne4 hc
  · show lngL (nx D u) (nx D (u + 1)) ≠ sx 4
    unfold lngL
    split
    · decide
    · obtain ⟨c, l, e, hc⟩ := num_hd (lngV (nx D u) (nx D (u + 1))).toInt
      rw [e]
      exact ne4 hc
  · show eigL (rnd (nx D u)).toInt ++ [102] ≠ sx 4
    obtain ⟨c, l, e, hc⟩ := eig_hd (rnd (nx D u)).toInt
    rw [e]
    exact ne4 hc
  · show eigL (nx D u).toInt ≠ sx 4
    obtain ⟨c, l, e, hc⟩ := eig_hd (nx D u).toInt
    rw [e]
    exact ne4 hc
  · show (if nx D u < 0 then (sx 4, u + 1) else ([34] ++ (txE D ((nx D u).toNatClampNeg % 5) (u + 1) ++ [34]), u + 1 + (nx D u).toNatClampNeg % 5) : List Int32 × Nat).1 ≠ sx 4
    rw [if_neg (hT rfl)]
    exact ne4 (l := _) (show (34 : Int32) ≠ 110 by decide)
def tot : List Ty → Nat
  | [] => 0
  | τ :: l => spl τ + tot l
def ftk : List Ty → Nat → Nat → List Int32
  | [], _, _ => []
  | τ :: l, i, p => (if 0 < i then [-44, -32] else []) ++ (nI (2 * p) :: ftk l (i + 1) (p + spl τ))
theorem ftk_len : ∀ (l : List Ty) (i p : Nat), (ftk l i p).length ≤ 3 * l.length := by
  intro l
  induction l with
  | nil => intro i p; exact Nat.le_refl _
  | cons τ l ih =>
    intro i p
    have := ih (i + 1) (p + spl τ)
    unfold ftk
    rw [List.length_append, List.length_cons, List.length_cons]
    split
    · show 2 + _ ≤ _
      omega
    · show 0 + _ ≤ _
      omega
/-- what the reference's rows of types are -/
def Mrw (A0 : Nat → Nat → Int32) (R : List (List Ty)) (r : Nat) : Prop := A0 2 r = nI (tot (R.getD r [])) ∧ RowAt A0 (r * 40) (R.getD r []) ∧ (R.getD r []).length ≤ 4 ∧ (∀ τ ∈ R.getD r [], okT τ) ∧ tot (R.getD r []) ≤ 40
theorem okT_ne {τ : Ty} (h : okT τ) : τ.2.1 ≠ 91 := by
  have hl : τ.2.1 = 79 ∨ τ.2.1 = 90 ∨ τ.2.1 = 66 ∨ τ.2.1 = 67 ∨ τ.2.1 = 83 ∨ τ.2.1 = 73 ∨ τ.2.1 = 74 ∨ τ.2.1 = 70 ∨ τ.2.1 = 68 ∨ τ.2.1 = 84 := by simpa [sgl] using h.2.2
  rcases hl with e | e | e | e | e | e | e | e | e | e <;> rw [e] <;> decide
section MVA
variable {P S h : AH} {n0 : Nat → Int32} {A0 : Nat → Nat → Int32} {k u ar d : Nat} {t w D : List Int32} {nl x : Int32} {o1 : Option Value} {R : List (List Ty)} {Q : Option Value → AH → Prop}
theorem MS.rd1 (hP : P.length = 135) {j : Nat} (M : MS P S n0 A0 k t u ar w nl h) (hj : j < 240) : okA am_isC h 137 (nI j) ∧ arr h 137 (nI j) = .int (A0 1 j) := by
  obtain ⟨n, A, rfl, -, -, -, -, -, -, m7, -⟩ := M
  exact ⟨ow_1 hP hj, by rw [aw_1 hP hj, m7 1 (by decide)]⟩
theorem MS.rd2 (hP : P.length = 135) {j : Nat} (M : MS P S n0 A0 k t u ar w nl h) (hj : j < 6) : okA am_isI h 138 (nI j) ∧ arr h 138 (nI j) = .int (A0 2 j) := by
  obtain ⟨n, A, rfl, -, -, -, -, -, -, m7, -⟩ := M
  exact ⟨ow_2 hP hj, by rw [aw_2 hP hj, m7 2 (by decide)]⟩
theorem MS.og (hP : P.length = 135) {j : Nat} (M : MS P S n0 A0 k t u ar w nl h) : okG h 135 8 j ↔ j < 25 := by
  obtain ⟨n, A, rfl, -⟩ := M
  exact ogw hP
theorem MS.f11 (hP : P.length = 135) (M : MS P S n0 A0 k t u ar w nl h) : fld h 135 11 = .ref 137 := by
  obtain ⟨n, A, rfl, -⟩ := M
  exact fw_11 hP
theorem MS.f12 (hP : P.length = 135) (M : MS P S n0 A0 k t u ar w nl h) : fld h 135 12 = .ref 138 := by
  obtain ⟨n, A, rfl, -⟩ := M
  exact fw_12 hP
theorem MS.f22 (hP : P.length = 135) (M : MS P S n0 A0 k t u ar w nl h) : fld h 135 22 = .ref 146 := by
  obtain ⟨n, A, rfl, -⟩ := M
  exact fw_22 hP
theorem MS.f23 (hP : P.length = 135) (M : MS P S n0 A0 k t u ar w nl h) : fld h 135 23 = .int (nI w.length) := by
  obtain ⟨n, A, rfl, -, -, -, -, m5, -⟩ := M
  rw [fw_23 hP, m5]
theorem MS.f21 (hP : P.length = 135) (M : MS P S n0 A0 k t u ar w nl h) : fld h 135 21 = .int (nI ar) := by
  obtain ⟨n, A, rfl, -, -, -, m4, -⟩ := M
  rw [fw_21 hP, m4]
theorem MS.set10 (hP : P.length = 135) {j : Nat} {y : Int32} (M : MS P S n0 A0 k t u ar w nl h) (hj : j < 400) : okA am_isI h 146 (nI j) ∧ MS P S n0 A0 k t u ar (w.set j y) nl (hast h 146 (nI j) (.int y)) := by
  obtain ⟨n, A, rfl, m1, m2, m3, m4, m5, m6, m7, m8, m9, m10, m11⟩ := M
  refine ⟨ow_10 hP hj, ?_⟩
  rw [sw_10 hP hj]
  refine ⟨n, _, rfl, m1, m2, m3, m4, by rw [List.length_set]; exact m5, m6, fun i hi => by rw [uA_r (by omega)]; exact m7 i hi, fun q z hq => ?_, by rw [uA_n (by decide)]; exact m9, fun q c hq hc => by rw [uA_n (by decide)]; exact m10 q c hq hc, fun k' hk' hne => ⟨by rw [uA_n (by decide)]; exact (m11 k' hk' hne).1, fun q hq => by rw [uA_n (by decide)]; exact (m11 k' hk' hne).2 q hq⟩⟩
  rw [List.getElem?_set] at hq
  by_cases c : j = q
  · subst c
    rw [if_pos rfl] at hq
    split at hq
    · cases hq
      rw [uA_s]
    · cases hq
  · rw [if_neg c] at hq
    rw [uA_m (fun e => c e.symm)]
    exact m8 q z hq
theorem MS.rd10 (hP : P.length = 135) {j : Nat} {y : Int32} (M : MS P S n0 A0 k t u ar w nl h) (hj : j < 400) (hy : w[j]? = some y) : okA am_isI h 146 (nI j) ∧ arr h 146 (nI j) = .int y := by
  obtain ⟨n, A, rfl, -, -, -, -, -, -, -, m8, -⟩ := M
  exact ⟨ow_10 hP hj, by rw [aw_10 hP hj, m8 j y hy]⟩
/-! planRow -/
theorem mi_pr_scan (hP : P.length = 135) {r q i0 : Nat} {o4 : Option Value} {b p : Nat} {c : Int32} (hc : c ≠ 91) (T : At A0 p b c q) (M : MS P S n0 A0 k t u ar w nl h) : ∀ (j i : Nat), i + j = b → (wp d 107 51 [some (.ref 135), some (.int (nI r)), some (.int (nI i0)), some (.int (nI (p + i))), o4, none, none, none] [] h Q ↔ wp d 107 68 [some (.ref 135), some (.int (nI r)), some (.int (nI i0)), some (.int (nI (p + b))), o4, none, none, none] [] h Q) := by
  obtain ⟨t1, t2, t3, t4⟩ := T
  intro j
  induction j with
  | zero =>
    intro i hi
    obtain rfl : i = b := by omega
    have r1 := M.rd1 hP (j := p + i) (by omega)
    simp only [k_107_51, k_107_51N, k_107_55, k_107_52, M.og hP, M.f11 hP, am_cat, am_kill, Value.category, List.map_cons, List.map_nil, List.sum_cons, List.sum_nil, Option.toList_some, Option.toList_none, List.cons_append, List.nil_append, List.length_cons, List.length_nil, List.getD_cons_succ, List.getD_cons_zero, List.set_cons_succ, List.set_cons_zero, Nat.reduceAdd, Nat.reduceLT, Nat.reduceLeDiff, Nat.zero_le, Nat.zero_add, Nat.add_zero]
    rw [k_107_56 r1.1, r1.2, t2]
    simp only [k_107_57, k_107_59, hc, if_false]
  | succ j ih =>
    intro i hi
    have r1 := M.rd1 hP (j := p + i) (by omega)
    simp only [k_107_51, k_107_51N, k_107_55, k_107_52, M.og hP, M.f11 hP, am_cat, am_kill, Value.category, List.map_cons, List.map_nil, List.sum_cons, List.sum_nil, Option.toList_some, Option.toList_none, List.cons_append, List.nil_append, List.length_cons, List.length_nil, List.getD_cons_succ, List.getD_cons_zero, List.set_cons_succ, List.set_cons_zero, Nat.reduceAdd, Nat.reduceLT, Nat.reduceLeDiff, Nat.zero_le, Nat.zero_add, Nat.add_zero]
    rw [k_107_56 r1.1, r1.2, t1 i (by omega)]
    simp only [k_107_57, k_107_59, k_107_62, k_107_65, if_true, nI_1, am_cat, am_kill, Value.category, List.map_cons, List.map_nil, List.sum_cons, List.sum_nil, Option.toList_some, Option.toList_none, List.cons_append, List.nil_append, List.length_cons, List.length_nil, List.getD_cons_succ, List.getD_cons_zero, List.set_cons_succ, List.set_cons_zero, Nat.reduceAdd, Nat.reduceLT, Nat.reduceLeDiff, Nat.zero_le, Nat.zero_add, Nat.add_zero]
    exact ih (i + 1) (by omega)
theorem mi_pr_loop (hP : P.length = 135) {r e b0 : Nat} (hr : r < 5) (he : e ≤ 40) (h2 : A0 2 r = nI e) : ∀ (l : List Ty) (i p : Nat) (w : List Int32) (h : AH), RowAt A0 p l → (∀ τ ∈ l, okT τ) → p + tot l = r * 40 + e → i + l.length ≤ 4 → MS P S n0 A0 k t u ar w nl h → w.length + 3 * l.length < 400 → (∀ h' i' p', MS P S n0 A0 k t u ar (w ++ ftk l i p) nl h' → wp (d + 1) 107 93 [some (.ref 135), some (.int (nI r)), some (.int i'), some (.int p'), some (.int (nI b0)), none, none, none] [] h' Q) → wp (d + 1) 107 13 [some (.ref 135), some (.int (nI r)), some (.int (nI i)), some (.int (nI p)), some (.int (nI b0)), none, none, none] [] h Q := by
  have e40 : nI r * 40 = nI (r * 40) := nI_mul r 40
  intro l
  induction l with
  | nil =>
    intro i p w h T hτ hp hi M hb K
    have r2 := M.rd2 hP (j := r) (by omega)
    have e1 : ¬ nI p < nI (r * 40 + e) := nI_nlt (by unfold tot at hp; omega) (by unfold tot at hp; omega)
    simp only [k_107_13, k_107_14, k_107_15, k_107_17, k_107_18, k_107_18N, k_107_22, k_107_19, M.og hP, M.f12 hP, e40, am_cat, am_kill, Value.category, List.map_cons, List.map_nil, List.sum_cons, List.sum_nil, Option.toList_some, Option.toList_none, List.cons_append, List.nil_append, List.length_cons, List.length_nil, List.getD_cons_succ, List.getD_cons_zero, List.set_cons_succ, List.set_cons_zero, Nat.reduceAdd, Nat.reduceLT, Nat.reduceLeDiff, Nat.zero_le, Nat.zero_add, Nat.add_zero]
    rw [k_107_23 r2.1, r2.2, h2]
    simp only [k_107_24, k_107_25, nI_add, e1, if_false]
    exact K h _ _ (by rw [show ftk [] i p = [] from rfl, List.append_nil]; exact M)
  | cons τ l ih =>
    intro i p w h T hτ hp hi M hb K
    have r2 := M.rd2 hP (j := r) (by omega)
    obtain ⟨T1, T2⟩ := T
    have hτ1 := hτ τ (List.mem_cons_self ..)
    have hne := okT_ne hτ1
    obtain ⟨a1, a2, a3, a4⟩ := id T1
    have hs : 1 ≤ spl τ := by unfold spl; split <;> omega
    unfold tot at hp
    rw [List.length_cons] at hi hb
    have e1 : nI p < nI (r * 40 + e) := nI_lt (by omega) (by omega)
    have e3 : ((0 : Int32) < nI i) ↔ 0 < i := nI_ltI (a := 0) (by omega) (by omega)
    simp only [k_107_13, k_107_14, k_107_15, k_107_17, k_107_18, k_107_18N, k_107_22, k_107_19, M.og hP, M.f12 hP, e40, am_cat, am_kill, Value.category, List.map_cons, List.map_nil, List.sum_cons, List.sum_nil, Option.toList_some, Option.toList_none, List.cons_append, List.nil_append, List.length_cons, List.length_nil, List.getD_cons_succ, List.getD_cons_zero, List.set_cons_succ, List.set_cons_zero, Nat.reduceAdd, Nat.reduceLT, Nat.reduceLeDiff, Nat.zero_le, Nat.zero_add, Nat.add_zero]
    rw [k_107_23 r2.1, r2.2, h2]
    simp only [k_107_24, k_107_25, k_107_28, k_107_29, nI_add, e1, if_true, e3, am_cat, am_kill, Value.category, List.map_cons, List.map_nil, List.sum_cons, List.sum_nil, Option.toList_some, Option.toList_none, List.cons_append, List.nil_append, List.length_cons, List.length_nil, List.getD_cons_succ, List.getD_cons_zero, List.set_cons_succ, List.set_cons_zero, Nat.reduceAdd, Nat.reduceLT, Nat.reduceLeDiff, Nat.zero_le, Nat.zero_add, Nat.add_zero]
    have fin : ∀ (w' : List Int32) (h' : AH), MS P S n0 A0 k t u ar w' nl h' → w'.length + 1 + 3 * l.length < 400 → (∀ h'' i' p', MS P S n0 A0 k t u ar (w' ++ (nI (2 * p) :: ftk l (i + 1) (p + spl τ))) nl h'' → wp (d + 1) 107 93 [some (.ref 135), some (.int (nI r)), some (.int i'), some (.int p'), some (.int (nI b0)), none, none, none] [] h'' Q) → wp (d + 1) 107 44 [some (.ref 135), some (.int (nI r)), some (.int (nI i)), some (.int (nI p)), some (.int (nI b0)), none, none, none] [] h' Q := by
      intro w' h' M' hb' K'
      have e4 : (2 : Int32) * nI p = nI (2 * p) := nI_mul 2 p
      simp only [k_107_44, k_107_44N, k_107_45, k_107_46, k_107_47, k_107_48, e4, M'.ov hP, am_cat, am_kill, Value.category, List.map_cons, List.map_nil, List.sum_cons, List.sum_nil, Option.toList_some, Option.toList_none, List.cons_append, List.nil_append, List.length_cons, List.length_nil, List.getD_cons_succ, List.getD_cons_zero, List.set_cons_succ, List.set_cons_zero, Nat.reduceAdd, Nat.reduceLT, Nat.reduceLeDiff, Nat.zero_le, Nat.zero_add, Nat.add_zero]
      refine mi_plan hP M' (by omega) (fun h1 M1 => ?_)
      have sc := mi_pr_scan (d := d + 1) (Q := Q) (r := r) (i0 := i) (o4 := some (.int (nI b0))) hP hne T1 M1 τ.1 0 (by omega)
      rw [Nat.add_zero] at sc
      show wp (d + 1) 107 51 _ [] h1 Q
      refine sc.mpr ?_
      have r1 := M1.rd1 hP (j := p + τ.1) (by omega)
      simp only [k_107_68, k_107_69, k_107_69N, k_107_73, k_107_70, M1.og hP, M1.f11 hP, am_cat, am_kill, Value.category, List.map_cons, List.map_nil, List.sum_cons, List.sum_nil, Option.toList_some, Option.toList_none, List.cons_append, List.nil_append, List.length_cons, List.length_nil, List.getD_cons_succ, List.getD_cons_zero, List.set_cons_succ, List.set_cons_zero, Nat.reduceAdd, Nat.reduceLT, Nat.reduceLeDiff, Nat.zero_le, Nat.zero_add, Nat.add_zero]
      rw [k_107_74 r1.1, r1.2, a2]
      simp only [k_107_75, k_107_77]
      have nxt : wp (d + 1) 107 13 [some (.ref 135), some (.int (nI r)), some (.int (nI (i + 1))), some (.int (nI (p + spl τ))), some (.int (nI b0)), none, none, none] [] h1 Q := by
        refine ih (i + 1) (p + spl τ) (w' ++ [nI (2 * p)]) h1 T2 (fun σ hσ => hτ σ (List.mem_cons_of_mem _ hσ)) (by omega) (by omega) M1 (by rw [List.length_append]; show w'.length + 1 + _ < _; omega) (fun h2 i' p' M2 => ?_)
        exact K' h2 i' p' (by rw [List.append_assoc] at M2; exact M2)
      by_cases c : τ.2.1 = 79
      · have e5 : nI (p + τ.1) + 2 = nI (p + spl τ) := by
          rw [show (2 : Int32) = nI 2 from rfl, nI_add]
          unfold spl
          rw [if_pos c]
          congr 1
        simp only [c, if_true, k_107_80, k_107_81, k_107_85, k_107_86, k_107_87, k_107_90, e5, nI_1, am_cat, am_kill, Value.category, List.map_cons, List.map_nil, List.sum_cons, List.sum_nil, Option.toList_some, Option.toList_none, List.cons_append, List.nil_append, List.length_cons, List.length_nil, List.getD_cons_succ, List.getD_cons_zero, List.set_cons_succ, List.set_cons_zero, Nat.reduceAdd, Nat.reduceLT, Nat.reduceLeDiff, Nat.zero_le, Nat.zero_add, Nat.add_zero]
        exact nxt
      · have e5 : nI (p + τ.1) + 1 = nI (p + spl τ) := by
          rw [nI_1]
          unfold spl
          rw [if_neg c]
          congr 1
        simp only [c, if_false, k_107_84, k_107_85, k_107_86, e5, am_cat, am_kill, Value.category, List.map_cons, List.map_nil, List.sum_cons, List.sum_nil, Option.toList_some, Option.toList_none, List.cons_append, List.nil_append, List.length_cons, List.length_nil, List.getD_cons_succ, List.getD_cons_zero, List.set_cons_succ, List.set_cons_zero, Nat.reduceAdd, Nat.reduceLT, Nat.reduceLeDiff, Nat.zero_le, Nat.zero_add, Nat.add_zero]
        simp only [k_107_87, k_107_90, nI_1, am_cat, am_kill, Value.category, List.map_cons, List.map_nil, List.sum_cons, List.sum_nil, Option.toList_some, Option.toList_none, List.cons_append, List.nil_append, List.length_cons, List.length_nil, List.getD_cons_succ, List.getD_cons_zero, List.set_cons_succ, List.set_cons_zero, Nat.reduceAdd, Nat.reduceLT, Nat.reduceLeDiff, Nat.zero_le, Nat.zero_add, Nat.add_zero]
        exact nxt
    unfold ftk at K
    by_cases c : 0 < i
    · rw [if_pos c] at K
      simp only [c, if_true, k_107_32, k_107_32N, k_107_33, k_107_35, M.ov hP, am_cat, am_kill, Value.category, List.map_cons, List.map_nil, List.sum_cons, List.sum_nil, Option.toList_some, Option.toList_none, List.cons_append, List.nil_append, List.length_cons, List.length_nil, List.getD_cons_succ, List.getD_cons_zero, List.set_cons_succ, List.set_cons_zero, Nat.reduceAdd, Nat.reduceLT, Nat.reduceLeDiff, Nat.zero_le, Nat.zero_add, Nat.add_zero]
      refine mi_plan hP M (by omega) (fun h1 M1 => ?_)
      simp only [k_107_38, k_107_38N, k_107_39, k_107_41, M1.ov hP, am_cat, am_kill, Value.category, List.map_cons, List.map_nil, List.sum_cons, List.sum_nil, Option.toList_some, Option.toList_none, List.cons_append, List.nil_append, List.length_cons, List.length_nil, List.getD_cons_succ, List.getD_cons_zero, List.set_cons_succ, List.set_cons_zero, Nat.reduceAdd, Nat.reduceLT, Nat.reduceLeDiff, Nat.zero_le, Nat.zero_add, Nat.add_zero]
      refine mi_plan hP M1 (by rw [List.length_append]; show w.length + 1 < _; omega) (fun h2 M2 => ?_)
      rw [List.append_assoc] at M2
      refine fin _ h2 M2 (by rw [List.length_append]; show w.length + 2 + 1 + _ < _; omega) (fun h3 i' p' M3 => ?_)
      exact K h3 i' p' (by rw [List.append_assoc] at M3; exact M3)
    · rw [if_neg c, List.nil_append] at K
      simp only [c, if_false]
      exact fin w h M (by omega) K
end MVA
