/-! THE REFERENCE'S VALUES: every one -/
theorem At.tail {A0 : Nat → Nat → Int32} {p b q : Nat} {c : Int32} (T : At A0 p (b + 1) c q) : At A0 (p + 1) b c q := by
  obtain ⟨t1, t2, t3, t4⟩ := T
  refine ⟨fun i hi => ?_, ?_, fun h => ?_, by omega⟩
  · rw [show p + 1 + i = p + (i + 1) by omega]
    exact t1 (i + 1) (by omega)
  · rw [show p + 1 + b = p + (b + 1) by omega]
    exact t2
  · rw [show p + 1 + b + 1 = p + (b + 1) + 1 by omega]
    exact t3 h
theorem ne4b {l : List Int32} : 110 :: 101 :: l ≠ sx 4 := fun e => by
  have e2 : sx 4 = 110 :: 117 :: [108, 108] := rfl
  rw [e2] at e
  injection e with _ e1
  injection e1 with e3 _
  exact absurd e3 (by decide)
section MVD
variable {P S h : AH} {n0 : Nat → Int32} {A0 : Nat → Nat → Int32} {k u ar d m : Nat} {t w D : List Int32} {nl x : Int32} {o1 : Option Value} {R : List (List Ty)} {Q : Option Value → AH → Prop}
theorem wl_rem (hP : P.length = 135) (hk : k < 4) {o b p : Nat} {τ : Ty} (V : ValC P S n0 A0 k D R m o b) (hτ : okT τ) (hb : b ≤ τ.1) (T : At A0 p b τ.2.1 τ.2.2) : ∀ (j i u : Nat) (w t : List Int32) (nl : Int32) (h : AH) (o1 : Option Value), 0 < i → MS P S n0 A0 k t u (4 - o) (w ++ rmT (nI (2 * p + 1)) j) nl h → w.length + 3 * j + 8 * b + 40 * o ≤ 380 → t.length + (litN (LT D R o τ b true) j i u).1.length < 2 ^ 26 → (litN (LT D R o τ b true) j i u).2 < 2 ^ 28 → (∀ h' nl' o1, MS P S n0 A0 k (t ++ (litN (LT D R o τ b true) j i u).1) (litN (LT D R o τ b true) j i u).2 (4 - o) w nl' h' → wp (m + 12) 109 0 [some (.ref 135), o1] [] h' Q) → wp (m + 12) 109 0 [some (.ref 135), o1] [] h Q := by
  have mono : ∀ u, u ≤ (LT D R o τ b true u).2 := litB_mono (litO_mono (lev_mono D R o) τ) b true
  intro j
  induction j with
  | zero =>
    intro i u w t nl h o1 hi M hw h1 h2 G
    refine G h nl o1 ?_
    rw [show ∀ f i, (litN f 0 i u).1 = [] from fun _ _ => rfl, List.append_nil]
    rw [show rmT (nI (2 * p + 1)) 0 = [] from rfl, List.append_nil] at M
    exact M
  | succ j ih =>
    intro i u w t nl h o1 hi M hw h1 h2 G
    have e0 : litN (LT D R o τ b true) (j + 1) i u = (sep i ++ ((LT D R o τ b true u).1 ++ (litN (LT D R o τ b true) j (i + 1) (LT D R o τ b true u).2).1), (litN (LT D R o τ b true) j (i + 1) (LT D R o τ b true u).2).2) := rfl
    rw [e0] at h1 h2 G
    dsimp only at h1 h2 G
    have es : sep i = [44, 32] := by unfold sep; rw [if_pos hi]
    rw [es] at h1 G
    simp only [List.length_append, List.length_cons, List.length_nil] at h1
    have m2 := litN_mono mono j (i + 1) (LT D R o τ b true u).2
    have rl := rmT_len (nI (2 * p + 1)) j
    have M' : MS P S n0 A0 k t u (4 - o) ((((w ++ rmT (nI (2 * p + 1)) j) ++ [nI (2 * p + 1)]) ++ [-32]) ++ [-44]) nl h := by
      simp only [List.append_assoc]
      exact M
    refine wl_chr (c := 44) hP hk (by decide) (by decide) ⟨by decide, by decide⟩ M' ?_ (by omega) (fun h3 o3 M3 => ?_)
    · simp only [List.length_append, List.length_cons, List.length_nil]
      omega
    refine wl_chr (c := 32) hP hk (by decide) (by decide) ⟨by decide, by decide⟩ M3 ?_ (by rw [List.length_append]; show t.length + 1 < _; omega) (fun h4 o4 M4 => ?_)
    · simp only [List.length_append, List.length_cons, List.length_nil]
      omega
    refine wl_elem hP (ins := true) (p := p) V hτ hb (fun q => by cases q) T M4 (by rw [List.length_append]; omega) (by simp only [List.length_append, List.length_cons, List.length_nil]; omega) (by omega) (fun h5 nl5 o5 M5 => ?_)
    refine ih (i + 1) _ w _ nl5 h5 o5 (by omega) M5 (by omega) (by simp only [List.length_append, List.length_cons, List.length_nil]; omega) h2 (fun h6 nl6 o6 M6 => ?_)
    refine G h6 nl6 o6 ?_
    simp only [List.append_assoc] at M6
    exact M6
theorem val_zero (hP : P.length = 135) (hk : k < 4) {o : Nat} (ho : o ≤ 4) (X : Mst n0 A0 D) (XR : ∀ r, r < 4 → Mrw A0 R r) (hV : ∀ o', o = o' + 1 → ∀ b, b ≤ 3 → ValC P S n0 A0 k D R m o' b) : ValC P S n0 A0 k D R m o 0 := by
  intro n p u τ ins w t nl h Q Qv hτ hb hi T M hw h1 h2 G K
  obtain ⟨t1, t2, t3, t4⟩ := id T
  rw [Nat.add_zero] at t2 t3 t4
  have eL : LT D R o τ 0 ins u = litO D R (lev D R o) τ u := rfl
  rw [eL] at h1 h2 G K
  by_cases c : τ.2.1 = 79
  · refine mv_head hP (by omega) M (fun h3 M3 => ?_)
    rw [t2, c]
    have f1 : ((79 : Int32) = 91) ↔ False := by decide
    have ek : nI (48 + τ.2.2) - 48 = nI τ.2.2 := by rw [show (48 : Int32) = nI 48 from rfl, nI_sub2 (by omega)]; congr 1; omega
    have r1 := M3.rd1 hP (j := p + 1) (by omega)
    rw [t3 c] at r1
    simp only [k_110_12, k_110_13, k_110_15, k_110_27, k_110_28, k_110_30, k_110_33, k_110_33N, k_110_34, k_110_34N, k_110_38, k_110_39, k_110_40, k_110_35, f1, if_true, if_false, M3.og hP, M3.f11 hP, nI_1, am_cat, am_kill, Value.category, List.map_cons, List.map_nil, List.sum_cons, List.sum_nil, Option.toList_some, Option.toList_none, List.cons_append, List.nil_append, List.length_cons, List.length_nil, List.getD_cons_succ, List.getD_cons_zero, List.set_cons_succ, List.set_cons_zero, Nat.reduceAdd, Nat.reduceLT, Nat.reduceLeDiff, Nat.zero_le, Nat.zero_add, Nat.add_zero]
    rw [k_110_41 r1.1, r1.2]
    simp only [k_110_42, k_110_44, k_110_45, ek, M3.ov hP, am_cat, am_kill, Value.category, List.map_cons, List.map_nil, List.sum_cons, List.sum_nil, Option.toList_some, Option.toList_none, List.cons_append, List.nil_append, List.length_cons, List.length_nil, List.getD_cons_succ, List.getD_cons_zero, List.set_cons_succ, List.set_cons_zero, Nat.reduceAdd, Nat.reduceLT, Nat.reduceLeDiff, Nat.zero_le, Nat.zero_add, Nat.add_zero]
    have hu : u < 2 ^ 28 := Nat.lt_of_le_of_lt (litO_mono (lev_mono D R o) τ u) h2
    refine mv_object hP hk hτ.2.1 ho (XR _ hτ.2.1) X hu M3 (by omega) (by omega) (fun hn h4 M4 => ?_) (fun hn h4 M4 => ?_)
    · have eN : litO D R (lev D R o) τ u = (sx 4, u + 1) := by
        unfold litO
        rw [if_pos c]
        cases o with
        | zero => rfl
        | succ o' =>
          show (if nx D u < 0 then _ else _) = _
          rw [if_pos (hn.elim id (fun q => by cases q))]
      rw [eN] at G K
      simp only [k_110_48, k_110_194, am_cat, am_kill, Value.category, List.map_cons, List.map_nil, List.sum_cons, List.sum_nil, Option.toList_some, Option.toList_none, List.cons_append, List.nil_append, List.length_cons, List.length_nil, List.getD_cons_succ, List.getD_cons_zero, List.set_cons_succ, List.set_cons_zero, Nat.reduceAdd, Nat.reduceLT, Nat.reduceLeDiff, Nat.zero_le, Nat.zero_add, Nat.add_zero]
      exact K h4 ⟨t ++ sx 4, u + 1, 4 - o, w, by rw [if_pos rfl]; exact M4⟩ (fun o1 => G h4 _ o1 M4)
    · cases o with
      | zero => exact absurd (Or.inr rfl) hn
      | succ o' =>
        have hneg : ¬ nx D u < 0 := fun q => hn (Or.inl q)
        have eO : litO D R (lev D R (o' + 1)) τ u = (sx 28 ++ ([nI (48 + τ.2.2)] ++ ([40] ++ ((litR (litT D R o') (R.getD τ.2.2 []) 0 (u + 1)).1 ++ [41]))), (litR (litT D R o') (R.getD τ.2.2 []) 0 (u + 1)).2) := by
          unfold litO
          rw [if_pos c]
          show (if nx D u < 0 then _ else _) = _
          rw [if_neg hneg]
        rw [eO] at G K h1 h2
        dsimp only at G K h1 h2
        have s28 : (sx 28).length = 5 := rfl
        simp only [List.length_append, s28, List.length_cons, List.length_nil] at h1
        obtain ⟨x1, x2, x3, x4, x5⟩ := XR _ hτ.2.1
        simp only [k_110_48, k_110_194, am_cat, am_kill, Value.category, List.map_cons, List.map_nil, List.sum_cons, List.sum_nil, Option.toList_some, Option.toList_none, List.cons_append, List.nil_append, List.length_cons, List.length_nil, List.getD_cons_succ, List.getD_cons_zero, List.set_cons_succ, List.set_cons_zero, Nat.reduceAdd, Nat.reduceLT, Nat.reduceLeDiff, Nat.zero_le, Nat.zero_add, Nat.add_zero]
        have ea : 4 - (o' + 1) + 1 = 4 - o' := by omega
        rw [ea] at M4
        refine K h4 ⟨t ++ (sx 28 ++ ([nI (48 + τ.2.2)] ++ [40])), u + 1, 4 - o', w ++ ([1000] ++ ([-41] ++ (ftk (R.getD τ.2.2 []) 0 (τ.2.2 * 40)).reverse)), ?_⟩ (fun o1 => ?_)
        · rw [if_neg (show sx 28 ++ _ ≠ sx 4 from ne4b)]
          exact M4
        · have M5 : MS P S n0 A0 k (t ++ (sx 28 ++ ([nI (48 + τ.2.2)] ++ [40]))) (u + 1) (4 - o') (((w ++ [1000]) ++ [-41]) ++ (ftk (R.getD τ.2.2 []) 0 (τ.2.2 * 40)).reverse) 0 h4 := by
            rw [List.append_assoc, List.append_assoc]
            exact M4
          refine wl_row hP hk (hV o' rfl) (R.getD τ.2.2 []) 0 (τ.2.2 * 40) (u + 1) ((w ++ [1000]) ++ [-41]) _ 0 h4 o1 x2 x4 x3 M5 ?_ ?_ h2 (fun h6 nl6 o6 M6 => ?_)
          · simp only [List.length_append, List.length_cons, List.length_nil]
            omega
          · simp only [List.length_append, s28, List.length_cons, List.length_nil]
            omega
          · refine wl_chr (c := 41) hP hk (by decide) (by decide) ⟨by decide, by decide⟩ M6 ?_ ?_ (fun h7 o7 M7 => ?_)
            · simp only [List.length_append, List.length_cons, List.length_nil]
              omega
            · simp only [List.length_append, s28, List.length_cons, List.length_nil]
              omega
            · rw [← ea] at M7
              refine wl_end hP M7 (by omega) (fun h8 o8 M8 => ?_)
              refine G h8 nl6 o8 ?_
              simp only [List.append_assoc] at M8
              exact M8
  · have hl : τ.2.1 ∈ sgl := hτ.2.2.elim (fun q => absurd q c) id
    have eO : litO D R (lev D R o) τ u = litS D τ.2.1 u := by
      unfold litO
      rw [if_neg c]
    rw [eO] at h1 h2 G K
    have lm := litS_mono D τ.2.1 u
    refine mv_leaf hP hk (by omega) t2 hl X (by omega) M (by omega) (fun h3 M3 => ?_)
    exact K h3 ⟨_, _, _, _, M3⟩ (fun o1 => G h3 _ o1 M3)
theorem val_succ (hP : P.length = 135) (hk : k < 4) {o b : Nat} (ho : o ≤ 4) (hb2 : b ≤ 2) (X : Mst n0 A0 D) (V : ValC P S n0 A0 k D R m o b) : ValC P S n0 A0 k D R m o (b + 1) := by
  intro n p u τ ins w t nl h Q Qv hτ hb hi T M hw h1 h2 G K
  obtain ⟨t1, t2, t3, t4⟩ := id T
  have hA : A0 1 p = 91 := t1 0 (by omega)
  have mono : ∀ u, u ≤ (LT D R o τ b true u).2 := litB_mono (litO_mono (lev_mono D R o) τ) b true
  have hu : u < 2 ^ 28 := Nat.lt_of_le_of_lt (litB_mono (litO_mono (lev_mono D R o) τ) (b + 1) ins u) h2
  refine mv_head hP (by omega) M (fun h3 M3 => ?_)
  rw [hA]
  simp only [k_110_12, k_110_13, k_110_15, k_110_18, k_110_18N, k_110_19, k_110_20, k_110_21, if_true, M3.ov hP, am_cat, am_kill, Value.category, List.map_cons, List.map_nil, List.sum_cons, List.sum_nil, Option.toList_some, Option.toList_none, List.cons_append, List.nil_append, List.length_cons, List.length_nil, List.getD_cons_succ, List.getD_cons_zero, List.set_cons_succ, List.set_cons_zero, Nat.reduceAdd, Nat.reduceLT, Nat.reduceLeDiff, Nat.zero_le, Nat.zero_add, Nat.add_zero]
  refine mv_array (τ := τ) hP hk (by omega) (fun q => ⟨hτ, by rw [← hi q]; exact T⟩) X hu M3 (by omega) (by omega) (fun hn h4 M4 => ?_) (fun q hn hq eq h4 M4 => ?_)
  · have eN : LT D R o τ (b + 1) ins u = (sx 4, u + 1) := by
      show (if nx D u < 0 then _ else _) = _
      rw [if_pos hn]
    rw [eN] at G K
    simp only [k_110_24, k_110_194, am_cat, am_kill, Value.category, List.map_cons, List.map_nil, List.sum_cons, List.sum_nil, Option.toList_some, Option.toList_none, List.cons_append, List.nil_append, List.length_cons, List.length_nil, List.getD_cons_succ, List.getD_cons_zero, List.set_cons_succ, List.set_cons_zero, Nat.reduceAdd, Nat.reduceLT, Nat.reduceLeDiff, Nat.zero_le, Nat.zero_add, Nat.add_zero]
    exact K h4 ⟨t ++ sx 4, u + 1, 4 - o, w, by rw [if_pos rfl]; exact M4⟩ (fun o1 => G h4 _ o1 M4)
  · have eL : LT D R o τ (b + 1) ins u = ((if ins = true then [] else sx 5 ++ (arN τ ++ [32])) ++ ([123] ++ ((litN (LT D R o τ b true) (q % 4) 0 (u + 1)).1 ++ [125])), (litN (LT D R o τ b true) (q % 4) 0 (u + 1)).2) := by
      show (if nx D u < 0 then _ else _) = _
      rw [if_neg hn, eq, nI_clamp hq]
    rw [eL] at G K h1 h2
    dsimp only at G K h1 h2
    have hne : (if ins = true then [] else sx 5 ++ (arN τ ++ [32])) ++ ([123] ++ ((litN (LT D R o τ b true) (q % 4) 0 (u + 1)).1 ++ [125])) ≠ sx 4 := by
      cases ins with
      | true => exact ne4 (l := _) (show (123 : Int32) ≠ 110 by decide)
      | false => exact ne4b
    simp only [k_110_24, k_110_194, am_cat, am_kill, Value.category, List.map_cons, List.map_nil, List.sum_cons, List.sum_nil, Option.toList_some, Option.toList_none, List.cons_append, List.nil_append, List.length_cons, List.length_nil, List.getD_cons_succ, List.getD_cons_zero, List.set_cons_succ, List.set_cons_zero, Nat.reduceAdd, Nat.reduceLT, Nat.reduceLeDiff, Nat.zero_le, Nat.zero_add, Nat.add_zero]
    generalize (if ins = true then [] else sx 5 ++ (arN τ ++ [32])) = hdr at G K h1 M4 hne
    simp only [List.length_append, List.length_cons, List.length_nil] at h1
    refine K h4 ⟨t ++ (hdr ++ [123]), u + 1, 4 - o, w ++ ([-125] ++ aps (nI (2 * (p + 1) + 1)) 0 (q % 4)), ?_⟩ (fun o1 => ?_)
    · rw [if_neg hne]
      exact M4
    · have hqm : q % 4 < 4 := Nat.mod_lt _ (by decide)
      have fin : ∀ (h' : AH) (nl' : Int32) (o' : Option Value), MS P S n0 A0 k ((t ++ (hdr ++ [123])) ++ (litN (LT D R o τ b true) (q % 4) 0 (u + 1)).1) (litN (LT D R o τ b true) (q % 4) 0 (u + 1)).2 (4 - o) (w ++ [-125]) nl' h' → wp (m + 12) 109 0 [some (.ref 135), o'] [] h' Q := by
        intro h' nl' o' M'
        refine wl_chr (c := 125) hP hk (by decide) (by decide) ⟨by decide, by decide⟩ M' (by omega) ?_ (fun h5 o5 M5 => ?_)
        · simp only [List.length_append, List.length_cons, List.length_nil]
          omega
        · refine G h5 nl' o5 ?_
          simp only [List.append_assoc] at M5
          exact M5
      cases hj : q % 4 with
      | zero =>
        rw [hj] at M4 fin
        refine fin h4 0 o1 ?_
        rw [show ∀ f i u, (litN f 0 i u).1 = [] from fun _ _ _ => rfl, List.append_nil]
        rw [show ∀ e, [-125] ++ aps e 0 0 = [-125] from fun _ => rfl] at M4
        exact M4
      | succ j =>
        rw [hj] at M4 fin h1 h2
        have e0 : litN (LT D R o τ b true) (j + 1) 0 (u + 1) = ([] ++ ((LT D R o τ b true (u + 1)).1 ++ (litN (LT D R o τ b true) j 1 (LT D R o τ b true (u + 1)).2).1), (litN (LT D R o τ b true) j 1 (LT D R o τ b true (u + 1)).2).2) := rfl
        rw [e0] at fin h1 h2
        dsimp only at fin h1 h2
        rw [List.nil_append] at fin h1
        simp only [List.length_append] at h1
        have m2 := litN_mono mono j 1 (LT D R o τ b true (u + 1)).2
        have rl := rmT_len (nI (2 * (p + 1) + 1)) j
        rw [aps_rm _ j (by omega)] at M4
        have M5 : MS P S n0 A0 k (t ++ (hdr ++ [123])) (u + 1) (4 - o) (((w ++ [-125]) ++ rmT (nI (2 * (p + 1) + 1)) j) ++ [nI (2 * (p + 1) + 1)]) 0 h4 := by
          simp only [List.append_assoc] at M4 ⊢
          exact M4
        refine wl_elem hP (ins := true) (p := p + 1) V hτ (by omega) (fun q => by cases q) T.tail M5 ?_ ?_ (by omega) (fun h6 nl6 o6 M6 => ?_)
        · simp only [List.length_append, List.length_cons, List.length_nil]
          omega
        · simp only [List.length_append, List.length_cons, List.length_nil]
          omega
        · refine wl_rem hP hk V hτ (by omega) T.tail j 1 _ (w ++ [-125]) _ nl6 h6 o6 (by omega) M6 ?_ ?_ h2 (fun h7 nl7 o7 M7 => ?_)
          · simp only [List.length_append, List.length_cons, List.length_nil]
            omega
          · simp only [List.length_append, List.length_cons, List.length_nil]
            omega
          · refine fin h7 nl7 o7 ?_
            rw [List.append_assoc] at M7
            exact M7
theorem val_all (hP : P.length = 135) (hk : k < 4) (X : Mst n0 A0 D) (XR : ∀ r, r < 4 → Mrw A0 R r) : ∀ o, o ≤ 4 → ∀ b, b ≤ 3 → ValC P S n0 A0 k D R m o b := by
  have step : ∀ o, o ≤ 4 → (∀ o', o = o' + 1 → ∀ b, b ≤ 3 → ValC P S n0 A0 k D R m o' b) → ∀ b, b ≤ 3 → ValC P S n0 A0 k D R m o b := by
    intro o ho hV b
    induction b with
    | zero => exact fun _ => val_zero hP hk ho X XR hV
    | succ b ih => exact fun hb => val_succ hP hk ho (by omega) X (ih (by omega))
  intro o
  induction o with
  | zero => exact fun ho => step 0 ho (fun o' e => by cases e)
  | succ o ih => exact fun ho => step (o + 1) ho (fun o' e => by cases e; exact ih (by omega))
end MVD
