/-! THE REFERENCE'S VALUES: arrays, objects, all -/
def aps (e : Int32) : Nat → Nat → List Int32
  | _, 0 => []
  | i, j + 1 => (if 0 < i then [-32, -44] else []) ++ (e :: aps e (i + 1) j)
def rmT (e : Int32) : Nat → List Int32
  | 0 => []
  | j + 1 => rmT e j ++ [e, -32, -44]
theorem aps_rm (e : Int32) (j : Nat) (hj : j < 3) : aps e 0 (j + 1) = rmT e j ++ [e] := by
  match j, hj with
  | 0, _ => rfl
  | 1, _ => rfl
  | 2, _ => rfl
theorem rmT_len (e : Int32) (j : Nat) : (rmT e j).length = 3 * j := by
  induction j with
  | zero => rfl
  | succ j ih =>
    show (rmT e j ++ [e, -32, -44]).length = _
    rw [List.length_append, ih]
    show 3 * j + 3 = _
    omega
abbrev LT (D : List Int32) (R : List (List Ty)) (o : Nat) (τ : Ty) (b : Nat) (ins : Bool) (u : Nat) : List Int32 × Nat := litB D (litO D R (lev D R o) τ) (arN τ) b ins u
def ValC (P S : AH) (n0 : Nat → Int32) (A0 : Nat → Nat → Int32) (k : Nat) (D : List Int32) (R : List (List Ty)) (m o b : Nat) : Prop := ∀ (n p u : Nat) (τ : Ty) (ins : Bool) (w t : List Int32) (nl : Int32) (h : AH) (Q Qv : Option Value → AH → Prop), okT τ → b ≤ τ.1 → (ins = false → b = τ.1) → At A0 p b τ.2.1 τ.2.2 → MS P S n0 A0 k t u (4 - o) w nl h → w.length + 8 * b + 40 * o ≤ 380 → t.length + (LT D R o τ b ins u).1.length < 2 ^ 26 → (LT D R o τ b ins u).2 < 2 ^ 28 → (∀ h' nl' o1, MS P S n0 A0 k (t ++ (LT D R o τ b ins u).1) (LT D R o τ b ins u).2 (4 - o) w nl' h' → wp (m + 12) 109 0 [some (.ref 135), o1] [] h' Q) → (∀ h1, (∃ t1 u1 ar1 w1, MS P S n0 A0 k t1 u1 ar1 w1 (if (LT D R o τ b ins u).1 = sx 4 then 1 else 0) h1) → (∀ o1, wp (m + 12) 109 0 [some (.ref 135), o1] [] h1 Q) → Qv none h1) → wp (n + 11) 110 0 [some (.ref 135), some (.int (nI p)), some (.int (if ins = true then 1 else 0)), none] [] h Qv
section MVC
variable {P S h : AH} {n0 : Nat → Int32} {A0 : Nat → Nat → Int32} {k u ar d m : Nat} {t w D : List Int32} {nl x : Int32} {o1 : Option Value} {R : List (List Ty)} {Q : Option Value → AH → Prop}
theorem wl_elem (hP : P.length = 135) {o b p : Nat} {τ : Ty} {ins : Bool} (V : ValC P S n0 A0 k D R m o b) (hτ : okT τ) (hb : b ≤ τ.1) (hi : ins = false → b = τ.1) (T : At A0 p b τ.2.1 τ.2.2) (M : MS P S n0 A0 k t u (4 - o) (w ++ [nI (2 * p + if ins = true then 1 else 0)]) nl h) (hw : w.length + 8 * b + 40 * o ≤ 380) (h1 : t.length + (LT D R o τ b ins u).1.length < 2 ^ 26) (h2 : (LT D R o τ b ins u).2 < 2 ^ 28) (G : ∀ h' nl' o1, MS P S n0 A0 k (t ++ (LT D R o τ b ins u).1) (LT D R o τ b ins u).2 (4 - o) w nl' h' → wp (m + 12) 109 0 [some (.ref 135), o1] [] h' Q) : wp (m + 12) 109 0 [some (.ref 135), o1] [] h Q := by
  refine wl_val hP (by have := T.2.2.2; omega) M (by omega) (fun h3 M3 Qv hQ => ?_)
  exact V m p u τ ins w t nl h3 Q Qv hτ hb hi T M3 hw h1 h2 G (fun h4 _ H => hQ h4 H)
theorem mi_arr_loop (hP : P.length = 135) {p q : Nat} {o2 : Option Value} (hq : q < 2 ^ 31) (hp : p < 240) : ∀ (j i : Nat) (w : List Int32) (h : AH), i + j = q % 4 → MS P S n0 A0 k t u ar w nl h → w.length + 3 * j < 400 → (∀ h', MS P S n0 A0 k t u ar (w ++ aps (nI (2 * (p + 1) + 1)) i j) nl h' → Q none h') → wp (d + 1) 111 51 [some (.ref 135), some (.int (nI p)), o2, some (.int (nI q)), some (.int (nI i))] [] h Q := by
  have h4 : ¬ (4 : Int32) = 0 := by decide
  have e1 : nI q - nI q / 4 * 4 = nI (q % 4) := pk_rem (d := 4) hq (by decide) (by decide)
  have e5 : (2 : Int32) * (nI p + 1) + 1 = nI (2 * (p + 1) + 1) := by rw [nI_1, show (2 : Int32) = nI 2 from rfl, nI_mul, nI_1]
  intro j
  induction j with
  | zero =>
    intro i w h hi M hb K
    have e2 : ¬ nI i < nI (q % 4) := nI_nlt (by omega) (by omega)
    simp only [k_111_51, k_111_53, k_111_54, k_111_55 h4, k_111_56, k_111_93, e1, e2, if_false, am_cat, am_kill, Value.category, List.map_cons, List.map_nil, List.sum_cons, List.sum_nil, Option.toList_some, Option.toList_none, List.cons_append, List.nil_append, List.length_cons, List.length_nil, List.getD_cons_succ, List.getD_cons_zero, List.set_cons_succ, List.set_cons_zero, Nat.reduceAdd, Nat.reduceLT, Nat.reduceLeDiff, Nat.zero_le, Nat.zero_add, Nat.add_zero]
    exact K h (by rw [show aps (nI (2 * (p + 1) + 1)) i 0 = [] by cases i <;> rfl, List.append_nil]; exact M)
  | succ j ih =>
    intro i w h hi M hb K
    have e2 : nI i < nI (q % 4) := nI_lt (by omega) (by omega)
    have e3 : ((0 : Int32) < nI i) ↔ 0 < i := nI_ltI (a := 0) (by omega) (by omega)
    simp only [k_111_51, k_111_53, k_111_54, k_111_55 h4, k_111_56, k_111_59, k_111_61, e1, e2, e3, if_true, am_cat, am_kill, Value.category, List.map_cons, List.map_nil, List.sum_cons, List.sum_nil, Option.toList_some, Option.toList_none, List.cons_append, List.nil_append, List.length_cons, List.length_nil, List.getD_cons_succ, List.getD_cons_zero, List.set_cons_succ, List.set_cons_zero, Nat.reduceAdd, Nat.reduceLT, Nat.reduceLeDiff, Nat.zero_le, Nat.zero_add, Nat.add_zero]
    have fin : ∀ (w' : List Int32) (h' : AH), MS P S n0 A0 k t u ar w' nl h' → w'.length + 1 + 3 * j < 400 → (∀ h'', MS P S n0 A0 k t u ar (w' ++ (nI (2 * (p + 1) + 1) :: aps (nI (2 * (p + 1) + 1)) (i + 1) j)) nl h'' → Q none h'') → wp (d + 1) 111 76 [some (.ref 135), some (.int (nI p)), o2, some (.int (nI q)), some (.int (nI i))] [] h' Q := by
      intro w' h' M' hb' K'
      simp only [k_111_76, k_111_76N, k_111_77, k_111_78, k_111_79, k_111_80, k_111_81, k_111_82, k_111_83, k_111_84, e5, M'.ov hP, am_cat, am_kill, Value.category, List.map_cons, List.map_nil, List.sum_cons, List.sum_nil, Option.toList_some, Option.toList_none, List.cons_append, List.nil_append, List.length_cons, List.length_nil, List.getD_cons_succ, List.getD_cons_zero, List.set_cons_succ, List.set_cons_zero, Nat.reduceAdd, Nat.reduceLT, Nat.reduceLeDiff, Nat.zero_le, Nat.zero_add, Nat.add_zero]
      refine mi_plan hP M' (by omega) (fun h1 M1 => ?_)
      simp only [k_111_87, k_111_90, nI_1, am_cat, am_kill, Value.category, List.map_cons, List.map_nil, List.sum_cons, List.sum_nil, Option.toList_some, Option.toList_none, List.cons_append, List.nil_append, List.length_cons, List.length_nil, List.getD_cons_succ, List.getD_cons_zero, List.set_cons_succ, List.set_cons_zero, Nat.reduceAdd, Nat.reduceLT, Nat.reduceLeDiff, Nat.zero_le, Nat.zero_add, Nat.add_zero]
      refine ih (i + 1) _ h1 (by omega) M1 (by rw [List.length_append]; show w'.length + 1 + _ < _; omega) (fun h2 M2 => ?_)
      exact K' h2 (by rw [List.append_assoc] at M2; exact M2)
    unfold aps at K
    by_cases c : 0 < i
    · rw [if_pos c] at K
      simp only [c, if_true, k_111_64, k_111_64N, k_111_65, k_111_67, M.ov hP, am_cat, am_kill, Value.category, List.map_cons, List.map_nil, List.sum_cons, List.sum_nil, Option.toList_some, Option.toList_none, List.cons_append, List.nil_append, List.length_cons, List.length_nil, List.getD_cons_succ, List.getD_cons_zero, List.set_cons_succ, List.set_cons_zero, Nat.reduceAdd, Nat.reduceLT, Nat.reduceLeDiff, Nat.zero_le, Nat.zero_add, Nat.add_zero]
      refine mi_plan hP M (by omega) (fun h1 M1 => ?_)
      simp only [k_111_70, k_111_70N, k_111_71, k_111_73, M1.ov hP, am_cat, am_kill, Value.category, List.map_cons, List.map_nil, List.sum_cons, List.sum_nil, Option.toList_some, Option.toList_none, List.cons_append, List.nil_append, List.length_cons, List.length_nil, List.getD_cons_succ, List.getD_cons_zero, List.set_cons_succ, List.set_cons_zero, Nat.reduceAdd, Nat.reduceLT, Nat.reduceLeDiff, Nat.zero_le, Nat.zero_add, Nat.add_zero]
      refine mi_plan hP M1 (by rw [List.length_append]; show w.length + 1 < _; omega) (fun h2 M2 => ?_)
      rw [List.append_assoc] at M2
      refine fin _ h2 M2 (by rw [List.length_append]; show w.length + 2 + 1 + _ < _; omega) (fun h3 M3 => ?_)
      exact K h3 (by rw [List.append_assoc] at M3; exact M3)
    · rw [if_neg c, List.nil_append] at K
      simp only [c, if_false]
      exact fin w h M (by omega) K
theorem mv_array (hP : P.length = 135) (hk : k < 4) {p : Nat} {ins : Bool} {τ : Ty} (hp : p < 240) (hn : ins = false → okT τ ∧ At A0 p τ.1 τ.2.1 τ.2.2) (X : Mst n0 A0 D) (hu : u < 2 ^ 28) (M : MS P S n0 A0 k t u ar w 0 h) (hb : t.length < 2 ^ 26) (hw : w.length + 20 ≤ 400) (K1 : nx D u < 0 → ∀ h', MS P S n0 A0 k (t ++ sx 4) (u + 1) ar w 1 h' → Q none h') (K2 : ∀ q, ¬ nx D u < 0 → q < 2 ^ 31 → nx D u = nI q → ∀ h', MS P S n0 A0 k (t ++ ((if ins = true then [] else sx 5 ++ (arN τ ++ [32])) ++ [123])) (u + 1) ar (w ++ ([-125] ++ aps (nI (2 * (p + 1) + 1)) 0 (q % 4))) 0 h' → Q none h') : wp (d + 4) 111 0 [some (.ref 135), some (.int (nI p)), some (.int (if ins = true then 1 else 0)), none, none] [] h Q := by
  simp only [k_111_0, k_111_0N, k_111_1, M.ov hP, am_cat, am_kill, Value.category, List.map_cons, List.map_nil, List.sum_cons, List.sum_nil, Option.toList_some, Option.toList_none, List.cons_append, List.nil_append, List.length_cons, List.length_nil, List.getD_cons_succ, List.getD_cons_zero, List.set_cons_succ, List.set_cons_zero, Nat.reduceAdd, Nat.reduceLT, Nat.reduceLeDiff, Nat.zero_le, Nat.zero_add, Nat.add_zero]
  refine mi_next hP X M (by omega) (fun h1 M1 => ?_)
  simp only [k_111_4, k_111_5, k_111_6, am_cat, am_kill, Value.category, List.map_cons, List.map_nil, List.sum_cons, List.sum_nil, Option.toList_some, Option.toList_none, List.cons_append, List.nil_append, List.length_cons, List.length_nil, List.getD_cons_succ, List.getD_cons_zero, List.set_cons_succ, List.set_cons_zero, Nat.reduceAdd, Nat.reduceLT, Nat.reduceLeDiff, Nat.zero_le, Nat.zero_add, Nat.add_zero]
  by_cases c : nx D u < 0
  · rw [if_pos c]
    simp only [k_111_9, k_111_9N, k_111_10, M1.ov hP, am_cat, am_kill, Value.category, List.map_cons, List.map_nil, List.sum_cons, List.sum_nil, Option.toList_some, Option.toList_none, List.cons_append, List.nil_append, List.length_cons, List.length_nil, List.getD_cons_succ, List.getD_cons_zero, List.set_cons_succ, List.set_cons_zero, Nat.reduceAdd, Nat.reduceLT, Nat.reduceLeDiff, Nat.zero_le, Nat.zero_add, Nat.add_zero]
    refine mi_nothing hP hk M1 (by omega) (fun h2 M2 => ?_)
    simp only [k_111_13, am_cat, am_kill, Value.category, List.map_cons, List.map_nil, List.sum_cons, List.sum_nil, Option.toList_some, Option.toList_none, List.cons_append, List.nil_append, List.length_cons, List.length_nil, List.getD_cons_succ, List.getD_cons_zero, List.set_cons_succ, List.set_cons_zero, Nat.reduceAdd, Nat.reduceLT, Nat.reduceLeDiff, Nat.zero_le, Nat.zero_add, Nat.add_zero]
    exact K1 c h2 M2
  rw [if_neg c]
  obtain ⟨q, hq, eq⟩ := nI_of c
  have K3 := K2 q c hq eq
  rw [eq]
  have fin : ∀ (h1 : AH) (hdr : List Int32) (v2 : Int32), hdr.length ≤ 60 → hdr = (if ins = true then [] else sx 5 ++ (arN τ ++ [32])) → MS P S n0 A0 k (t ++ hdr) (u + 1) ar w 0 h1 → wp (d + 4) 111 36 [some (.ref 135), some (.int (nI p)), some (.int v2), some (.int (nI q)), none] [] h1 Q := by
    intro h1 hdr v2 hl eh M1
    rw [← eh] at K3
    simp only [k_111_36, k_111_36N, k_111_37, k_111_39, M1.ov hP, am_cat, am_kill, Value.category, List.map_cons, List.map_nil, List.sum_cons, List.sum_nil, Option.toList_some, Option.toList_none, List.cons_append, List.nil_append, List.length_cons, List.length_nil, List.getD_cons_succ, List.getD_cons_zero, List.set_cons_succ, List.set_cons_zero, Nat.reduceAdd, Nat.reduceLT, Nat.reduceLeDiff, Nat.zero_le, Nat.zero_add, Nat.add_zero]
    refine mi_put hP hk ⟨by decide, by decide⟩ M1 (by rw [List.length_append]; omega) (fun h2 M2 => ?_)
    simp only [k_111_42, k_111_42N, k_111_43, k_111_45, M2.ov hP, am_cat, am_kill, Value.category, List.map_cons, List.map_nil, List.sum_cons, List.sum_nil, Option.toList_some, Option.toList_none, List.cons_append, List.nil_append, List.length_cons, List.length_nil, List.getD_cons_succ, List.getD_cons_zero, List.set_cons_succ, List.set_cons_zero, Nat.reduceAdd, Nat.reduceLT, Nat.reduceLeDiff, Nat.zero_le, Nat.zero_add, Nat.add_zero]
    refine mi_plan hP M2 (by omega) (fun h3 M3 => ?_)
    simp only [k_111_48, k_111_49, am_cat, am_kill, Value.category, List.map_cons, List.map_nil, List.sum_cons, List.sum_nil, Option.toList_some, Option.toList_none, List.cons_append, List.nil_append, List.length_cons, List.length_nil, List.getD_cons_succ, List.getD_cons_zero, List.set_cons_succ, List.set_cons_zero, Nat.reduceAdd, Nat.reduceLT, Nat.reduceLeDiff, Nat.zero_le, Nat.zero_add, Nat.add_zero]
    refine mi_arr_loop hP hq hp (q % 4) 0 _ h3 (by omega) M3 (by rw [List.length_append]; show w.length + 1 + _ < _; omega) (fun h4 M4 => ?_)
    rw [List.append_assoc, List.append_assoc] at M4
    exact K3 h4 M4
  cases ins with
  | true =>
    have e1 : ((if true = true then (1 : Int32) else 0) = 0) ↔ False := by decide
    simp only [k_111_14, k_111_15, e1, if_false, am_cat, am_kill, Value.category, List.map_cons, List.map_nil, List.sum_cons, List.sum_nil, Option.toList_some, Option.toList_none, List.cons_append, List.nil_append, List.length_cons, List.length_nil, List.getD_cons_succ, List.getD_cons_zero, List.set_cons_succ, List.set_cons_zero, Nat.reduceAdd, Nat.reduceLT, Nat.reduceLeDiff, Nat.zero_le, Nat.zero_add, Nat.add_zero]
    exact fin h1 [] _ (by decide) rfl (by rw [List.append_nil]; exact M1)
  | false =>
    obtain ⟨hτ, T⟩ := hn rfl
    have e1 : ((if false = true then (1 : Int32) else 0) = 0) ↔ True := by decide
    have al := arN_len hτ.1
    have s5 : (sx 5).length = 4 := rfl
    simp only [k_111_14, k_111_15, k_111_18, k_111_18N, k_111_19, k_111_22, e1, if_true, M1.ov hP, am_cat, am_kill, Value.category, List.map_cons, List.map_nil, List.sum_cons, List.sum_nil, Option.toList_some, Option.toList_none, List.cons_append, List.nil_append, List.length_cons, List.length_nil, List.getD_cons_succ, List.getD_cons_zero, List.set_cons_succ, List.set_cons_zero, Nat.reduceAdd, Nat.reduceLT, Nat.reduceLeDiff, Nat.zero_le, Nat.zero_add, Nat.add_zero]
    refine mi_wordc hP hk (sx 5) (by decide) M1 (by omega) (fun h2 M2 => ?_)
    simp only [k_111_25, k_111_25N, k_111_26, k_111_27, M2.ov hP, am_cat, am_kill, Value.category, List.map_cons, List.map_nil, List.sum_cons, List.sum_nil, Option.toList_some, Option.toList_none, List.cons_append, List.nil_append, List.length_cons, List.length_nil, List.getD_cons_succ, List.getD_cons_zero, List.set_cons_succ, List.set_cons_zero, Nat.reduceAdd, Nat.reduceLT, Nat.reduceLeDiff, Nat.zero_le, Nat.zero_add, Nat.add_zero]
    refine mi_arN hP hk hτ T M2 (by rw [List.length_append, s5]; omega) (fun h3 M3 => ?_)
    simp only [k_111_30, k_111_30N, k_111_31, k_111_33, M3.ov hP, am_cat, am_kill, Value.category, List.map_cons, List.map_nil, List.sum_cons, List.sum_nil, Option.toList_some, Option.toList_none, List.cons_append, List.nil_append, List.length_cons, List.length_nil, List.getD_cons_succ, List.getD_cons_zero, List.set_cons_succ, List.set_cons_zero, Nat.reduceAdd, Nat.reduceLT, Nat.reduceLeDiff, Nat.zero_le, Nat.zero_add, Nat.add_zero]
    refine mi_put hP hk ⟨by decide, by decide⟩ M3 (by simp only [List.length_append, s5]; omega) (fun h4 M4 => ?_)
    simp only [List.append_assoc] at M4
    refine fin h4 (sx 5 ++ (arN τ ++ [32])) _ ?_ rfl M4
    simp only [List.length_append, s5, List.length_cons, List.length_nil]
    omega
theorem mv_object (hP : P.length = 135) (hk : k < 4) {q o : Nat} (hq : q < 4) (ho : o ≤ 4) (XR : Mrw A0 R q) (X : Mst n0 A0 D) (hu : u < 2 ^ 28) (M : MS P S n0 A0 k t u (4 - o) w 0 h) (hb : t.length < 2 ^ 26) (hw : w.length + 20 ≤ 400) (K1 : (nx D u < 0 ∨ o = 0) → ∀ h', MS P S n0 A0 k (t ++ sx 4) (u + 1) (4 - o) w 1 h' → Q none h') (K2 : ¬ (nx D u < 0 ∨ o = 0) → ∀ h', MS P S n0 A0 k (t ++ (sx 28 ++ ([nI (48 + q)] ++ [40]))) (u + 1) (4 - o + 1) (w ++ ([1000] ++ ([-41] ++ (ftk (R.getD q []) 0 (q * 40)).reverse))) 0 h' → Q none h') : wp (d + 4) 115 0 [some (.ref 135), some (.int (nI q)), none] [] h Q := by
  have hs : sN ≤ 135 := by decide
  have s28 : (sx 28).length = 5 := rfl
  simp only [k_115_0, k_115_0N, k_115_1, M.ov hP, am_cat, am_kill, Value.category, List.map_cons, List.map_nil, List.sum_cons, List.sum_nil, Option.toList_some, Option.toList_none, List.cons_append, List.nil_append, List.length_cons, List.length_nil, List.getD_cons_succ, List.getD_cons_zero, List.set_cons_succ, List.set_cons_zero, Nat.reduceAdd, Nat.reduceLT, Nat.reduceLeDiff, Nat.zero_le, Nat.zero_add, Nat.add_zero]
  refine mi_next hP X M (by omega) (fun h1 M1 => ?_)
  have e4 : (nI (4 - o) = (4 : Int32)) ↔ o = 0 := by
    rw [show (4 : Int32) = nI 4 from rfl, nI_eq (by omega) (by omega)]
    omega
  simp only [k_115_4, k_115_5, k_115_6, k_115_9, k_115_9N, k_115_13, k_115_14, k_115_10, M1.og hP, M1.f21 hP, e4, am_cat, am_kill, Value.category, List.map_cons, List.map_nil, List.sum_cons, List.sum_nil, Option.toList_some, Option.toList_none, List.cons_append, List.nil_append, List.length_cons, List.length_nil, List.getD_cons_succ, List.getD_cons_zero, List.set_cons_succ, List.set_cons_zero, Nat.reduceAdd, Nat.reduceLT, Nat.reduceLeDiff, Nat.zero_le, Nat.zero_add, Nat.add_zero]
  rw [ite_two (r := nx D u < 0 ∨ o = 0) Iff.rfl]
  by_cases c : nx D u < 0 ∨ o = 0
  · rw [if_pos c]
    simp only [k_115_17, k_115_17N, k_115_18, M1.ov hP, am_cat, am_kill, Value.category, List.map_cons, List.map_nil, List.sum_cons, List.sum_nil, Option.toList_some, Option.toList_none, List.cons_append, List.nil_append, List.length_cons, List.length_nil, List.getD_cons_succ, List.getD_cons_zero, List.set_cons_succ, List.set_cons_zero, Nat.reduceAdd, Nat.reduceLT, Nat.reduceLeDiff, Nat.zero_le, Nat.zero_add, Nat.add_zero]
    refine mi_nothing hP hk M1 (by omega) (fun h2 M2 => ?_)
    simp only [k_115_21, am_cat, am_kill, Value.category, List.map_cons, List.map_nil, List.sum_cons, List.sum_nil, Option.toList_some, Option.toList_none, List.cons_append, List.nil_append, List.length_cons, List.length_nil, List.getD_cons_succ, List.getD_cons_zero, List.set_cons_succ, List.set_cons_zero, Nat.reduceAdd, Nat.reduceLT, Nat.reduceLeDiff, Nat.zero_le, Nat.zero_add, Nat.add_zero]
    exact K1 c h2 M2
  · rw [if_neg c]
    have ec : (48 : Int32) + nI q = nI (48 + q) := nI_add 48 _
    simp only [k_115_22, k_115_22N, k_115_23, k_115_26, M1.ov hP, am_cat, am_kill, Value.category, List.map_cons, List.map_nil, List.sum_cons, List.sum_nil, Option.toList_some, Option.toList_none, List.cons_append, List.nil_append, List.length_cons, List.length_nil, List.getD_cons_succ, List.getD_cons_zero, List.set_cons_succ, List.set_cons_zero, Nat.reduceAdd, Nat.reduceLT, Nat.reduceLeDiff, Nat.zero_le, Nat.zero_add, Nat.add_zero]
    refine mi_wordc hP hk (sx 28) (by decide) M1 (by omega) (fun h2 M2 => ?_)
    simp only [k_115_29, k_115_29N, k_115_30, k_115_32, k_115_33, k_115_34, ec, M2.ov hP, am_cat, am_kill, Value.category, List.map_cons, List.map_nil, List.sum_cons, List.sum_nil, Option.toList_some, Option.toList_none, List.cons_append, List.nil_append, List.length_cons, List.length_nil, List.getD_cons_succ, List.getD_cons_zero, List.set_cons_succ, List.set_cons_zero, Nat.reduceAdd, Nat.reduceLT, Nat.reduceLeDiff, Nat.zero_le, Nat.zero_add, Nat.add_zero]
    refine mi_put hP hk (chr_nI (by omega)) M2 (by rw [List.length_append, s28]; omega) (fun h3 M3 => ?_)
    simp only [k_115_37, k_115_37N, k_115_38, k_115_40, M3.ov hP, am_cat, am_kill, Value.category, List.map_cons, List.map_nil, List.sum_cons, List.sum_nil, Option.toList_some, Option.toList_none, List.cons_append, List.nil_append, List.length_cons, List.length_nil, List.getD_cons_succ, List.getD_cons_zero, List.set_cons_succ, List.set_cons_zero, Nat.reduceAdd, Nat.reduceLT, Nat.reduceLeDiff, Nat.zero_le, Nat.zero_add, Nat.add_zero]
    refine mi_put hP hk ⟨by decide, by decide⟩ M3 (by simp only [List.length_append, s28, List.length_cons, List.length_nil]; omega) (fun h4 M4 => ?_)
    obtain ⟨n, A, rfl, m1, m2, m3, m4, m5, m6, m7⟩ := M4
    simp only [k_115_43, k_115_43N, k_115_44, k_115_44i, k_115_48, k_115_49, k_115_45, k_115_50, ogw hP, fw_21 hP, hw_21 hP, hs, m4, nI_1, am_cat, am_kill, Value.category, List.map_cons, List.map_nil, List.sum_cons, List.sum_nil, Option.toList_some, Option.toList_none, List.cons_append, List.nil_append, List.length_cons, List.length_nil, List.getD_cons_succ, List.getD_cons_zero, List.set_cons_succ, List.set_cons_zero, Nat.reduceAdd, Nat.reduceLT, Nat.reduceLeDiff, Nat.zero_le, Nat.zero_add, Nat.add_zero]
    have M5 : MS P S n0 A0 k (t ++ sx 28 ++ [nI (48 + q)] ++ [40]) (u + 1) (4 - o + 1) w 0 (wr P S (upd n 21 (nI (4 - o + 1))) A) := ⟨_, A, rfl, fun i i1 i2 i3 i4 i5 => by rw [pk_un i3]; exact m1 i i1 i2 i3 i4 i5, by rw [pk_un (by decide)]; exact m2, by rw [pk_un (by decide)]; exact m3, pk_us, by rw [pk_un (by decide)]; exact m5, by rw [pk_un (by decide)]; exact m6, m7⟩
    simp only [k_115_53, k_115_53N, k_115_54, k_115_57, M5.ov hP, am_cat, am_kill, Value.category, List.map_cons, List.map_nil, List.sum_cons, List.sum_nil, Option.toList_some, Option.toList_none, List.cons_append, List.nil_append, List.length_cons, List.length_nil, List.getD_cons_succ, List.getD_cons_zero, List.set_cons_succ, List.set_cons_zero, Nat.reduceAdd, Nat.reduceLT, Nat.reduceLeDiff, Nat.zero_le, Nat.zero_add, Nat.add_zero]
    refine mi_plan hP M5 (by omega) (fun h6 M6 => ?_)
    simp only [k_115_60, k_115_60N, k_115_61, k_115_63, M6.ov hP, am_cat, am_kill, Value.category, List.map_cons, List.map_nil, List.sum_cons, List.sum_nil, Option.toList_some, Option.toList_none, List.cons_append, List.nil_append, List.length_cons, List.length_nil, List.getD_cons_succ, List.getD_cons_zero, List.set_cons_succ, List.set_cons_zero, Nat.reduceAdd, Nat.reduceLT, Nat.reduceLeDiff, Nat.zero_le, Nat.zero_add, Nat.add_zero]
    refine mi_plan hP M6 (by rw [List.length_append]; show w.length + 1 < _; omega) (fun h7 M7 => ?_)
    simp only [k_115_66, k_115_66N, k_115_67, k_115_68, M7.ov hP, am_cat, am_kill, Value.category, List.map_cons, List.map_nil, List.sum_cons, List.sum_nil, Option.toList_some, Option.toList_none, List.cons_append, List.nil_append, List.length_cons, List.length_nil, List.getD_cons_succ, List.getD_cons_zero, List.set_cons_succ, List.set_cons_zero, Nat.reduceAdd, Nat.reduceLT, Nat.reduceLeDiff, Nat.zero_le, Nat.zero_add, Nat.add_zero]
    refine mi_planRow hP (by omega) XR M7 (by simp only [List.length_append, List.length_cons, List.length_nil]; omega) (fun h8 M8 => ?_)
    simp only [k_115_71, am_cat, am_kill, Value.category, List.map_cons, List.map_nil, List.sum_cons, List.sum_nil, Option.toList_some, Option.toList_none, List.cons_append, List.nil_append, List.length_cons, List.length_nil, List.getD_cons_succ, List.getD_cons_zero, List.set_cons_succ, List.set_cons_zero, Nat.reduceAdd, Nat.reduceLT, Nat.reduceLeDiff, Nat.zero_le, Nat.zero_add, Nat.add_zero]
    refine K2 c h8 ?_
    simp only [List.append_assoc] at M8 ⊢
    exact M8
/-- a row of values in the work list -/
theorem wl_row (hP : P.length = 135) (hk : k < 4) {o : Nat} (V : ∀ b, b ≤ 3 → ValC P S n0 A0 k D R m o b) : ∀ (l : List Ty) (i p u : Nat) (w t : List Int32) (nl : Int32) (h : AH) (o1 : Option Value), RowAt A0 p l → (∀ τ ∈ l, okT τ) → l.length ≤ 4 → MS P S n0 A0 k t u (4 - o) (w ++ (ftk l i p).reverse) nl h → w.length + 3 * l.length + 24 + 40 * o ≤ 380 → t.length + (litR (litT D R o) l i u).1.length < 2 ^ 26 → (litR (litT D R o) l i u).2 < 2 ^ 28 → (∀ h' nl' o1, MS P S n0 A0 k (t ++ (litR (litT D R o) l i u).1) (litR (litT D R o) l i u).2 (4 - o) w nl' h' → wp (m + 12) 109 0 [some (.ref 135), o1] [] h' Q) → wp (m + 12) 109 0 [some (.ref 135), o1] [] h Q := by
  intro l
  induction l with
  | nil =>
    intro i p u w t nl h o1 T hτ hl M hw hb hu G
    exact G h nl o1 (by rw [show (litR (litT D R o) [] i u).1 = [] from rfl, List.append_nil]; rw [show (ftk [] i p).reverse = [] from rfl, List.append_nil] at M; exact M)
  | cons τ l ih =>
    intro i p u w t nl h o1 T hτ hl M hw hb hu G
    obtain ⟨T1, T2⟩ := T
    have hτ1 := hτ τ (List.mem_cons_self ..)
    have e0 : litR (litT D R o) (τ :: l) i u = (sep i ++ ((litT D R o τ u).1 ++ (litR (litT D R o) l (i + 1) (litT D R o τ u).2).1), (litR (litT D R o) l (i + 1) (litT D R o τ u).2).2) := rfl
    rw [e0] at hb hu G
    dsimp only at hb hu G
    simp only [List.length_append] at hb
    have eT := litT_eq D R o τ u
    have mono := litR_mono (litT_mono D R o) l (i + 1) (litT D R o τ u).2
    have fl := ftk_len l (i + 1) (p + spl τ)
    rw [List.length_cons] at hl hw
    have h13 := hτ1.1
    have go : ∀ (t' : List Int32) (nl' : Int32) (h' : AH) (o' : Option Value), t' = t ++ sep i → MS P S n0 A0 k t' u (4 - o) ((w ++ (ftk l (i + 1) (p + spl τ)).reverse) ++ [nI (2 * p)]) nl' h' → wp (m + 12) 109 0 [some (.ref 135), o'] [] h' Q := by
      intro t' nl' h' o' et M'
      subst et
      refine wl_elem hP (ins := false) (b := τ.1) (p := p) (V τ.1 hτ1.1) hτ1 (Nat.le_refl _) (fun _ => rfl) T1 M' (by rw [List.length_append, List.length_reverse]; omega) ?_ ?_ (fun h2 nl2 o2 M2 => ?_)
      · show (t ++ sep i).length + (litB D (litO D R (lev D R o) τ) (arN τ) τ.1 false u).1.length < _
        rw [← eT, List.length_append]
        omega
      · show (litB D (litO D R (lev D R o) τ) (arN τ) τ.1 false u).2 < _
        rw [← eT]
        omega
      · have M2' : MS P S n0 A0 k ((t ++ sep i) ++ (litB D (litO D R (lev D R o) τ) (arN τ) τ.1 false u).1) (litB D (litO D R (lev D R o) τ) (arN τ) τ.1 false u).2 (4 - o) (w ++ (ftk l (i + 1) (p + spl τ)).reverse) nl2 h2 := M2
        rw [← eT] at M2'
        refine ih (i + 1) (p + spl τ) _ w _ nl2 h2 o2 T2 (fun σ hσ => hτ σ (List.mem_cons_of_mem _ hσ)) (by omega) M2' (by omega) (by simp only [List.length_append]; omega) hu (fun h3 nl3 o3 M3 => ?_)
        refine G h3 nl3 o3 ?_
        simp only [List.append_assoc] at M3
        exact M3
    have ef : (ftk (τ :: l) i p).reverse = (ftk l (i + 1) (p + spl τ)).reverse ++ ([nI (2 * p)] ++ (if 0 < i then [-32, -44] else [])) := by
      show ((if 0 < i then [-44, -32] else []) ++ (nI (2 * p) :: ftk l (i + 1) (p + spl τ))).reverse = _
      rw [List.reverse_append, List.reverse_cons, List.append_assoc]
      congr 2
      split <;> rfl
    rw [ef] at M
    by_cases c : 0 < i
    · have es : sep i = [44, 32] := by unfold sep; rw [if_pos c]
      rw [if_pos c] at M
      have M' : MS P S n0 A0 k t u (4 - o) (((w ++ (ftk l (i + 1) (p + spl τ)).reverse ++ [nI (2 * p)]) ++ [-32]) ++ [-44]) nl h := by
        simp only [List.append_assoc]
        exact M
      refine wl_chr (c := 44) hP hk (by decide) (by decide) ⟨by decide, by decide⟩ M' ?_ (by omega) (fun h1 o2 M1 => ?_)
      · simp only [List.length_append, List.length_reverse, List.length_cons, List.length_nil]
        omega
      refine wl_chr (c := 32) hP hk (by decide) (by decide) ⟨by decide, by decide⟩ M1 ?_ (by rw [List.length_append]; show t.length + 1 < _; omega) (fun h2 o3 M2 => ?_)
      · simp only [List.length_append, List.length_reverse, List.length_cons, List.length_nil]
        omega
      exact go _ nl h2 o3 (by rw [es, List.append_assoc]; rfl) M2
    · have es : sep i = [] := by unfold sep; rw [if_neg c]
      rw [if_neg c, List.append_nil, ← List.append_assoc] at M
      exact go t nl h o1 (by rw [es, List.append_nil]) M
end MVC
