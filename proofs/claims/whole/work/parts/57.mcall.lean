/-! THE REFERENCE'S CALL AND BODIES -/
def cpc (t : List Int32) (i : Nat) : Int32 := if i < 325 then t.getD i 0 else 32
def cpl (t : List Int32) : Nat → Nat → List Int32
  | _, 0 => []
  | i, j + 1 => cpc t i :: cpl t (i + 1) j
def cpT (t : List Int32) : List Int32 := cpl t 0 t.length
theorem cpl_len (t : List Int32) : ∀ j i, (cpl t i j).length = j := by
  intro j
  induction j with
  | zero => intro i; rfl
  | succ j ih => intro i; show (cpl t (i + 1) j).length + 1 = _; rw [ih]
theorem cpl_eq (t : List Int32) (h : t.length ≤ 325) : ∀ j i, i + j = t.length → cpl t i j = t.drop i := by
  intro j
  induction j with
  | zero => intro i hi; rw [List.drop_eq_nil_of_le (by omega)]; rfl
  | succ j ih =>
    intro i hi
    have hl : i < t.length := by omega
    rw [List.drop_eq_getElem_cons hl]
    show cpc t i :: cpl t (i + 1) j = _
    rw [ih (i + 1) (by omega)]
    congr 1
    unfold cpc
    rw [if_pos (by omega), List.getD_eq_getElem?_getD, List.getElem?_eq_getElem hl]
    rfl
theorem cpT_eq {t : List Int32} (h : t.length ≤ 325) : cpT t = t := by
  unfold cpT
  rw [cpl_eq t h t.length 0 (by omega), List.drop_zero]
theorem cpT_len (t : List Int32) : (cpT t).length = t.length := cpl_len t _ _
/-- a part that lies there -/
def Prt (A : Nat → Nat → Int32) (k : Nat) (t : List Int32) : Prop := A 9 k = nI t.length ∧ ∀ (j : Nat) (c : Int32), j < 325 → t[j]? = some c → A 8 (k * 325 + j) = c
def asM (τ : Ty) (lit call : List Int32) : List Int32 := (if τ.1 = 0 ∧ τ.2.1 = 86 then [] else if τ.1 = 0 ∧ τ.2.1 = 90 then (if lit = sx 30 then sx 31 else sx 32) else if lit = sx 33 then sx 34 else (if 0 < τ.1 then sx 35 else sx 36) ++ (cpT lit ++ sx 37)) ++ (cpT call ++ ((if τ.1 = 0 ∧ τ.2.1 = 86 then [] else sfx τ ++ [41]) ++ [59]))
def ctM (nm call : List Int32) : List Int32 := sx 42 ++ (cpT call ++ (sx 43 ++ (nm ++ (sx 44 ++ (nm ++ [32, 101, 41, 32, 123, 10, 125])))))
section MCA
variable {P S h : AH} {n n0 : Nat → Int32} {A A0 : Nat → Nat → Int32} {k u ar d : Nat} {t w D : List Int32} {nl x : Int32} {o1 : Option Value} {R : List (List Ty)} {Q : Option Value → AH → Prop}
theorem ms_begin {v : Nat → Int32} {k : Nat} (hv : ∀ i, i ≠ 4 → i ≠ 20 → i ≠ 21 → i ≠ 23 → i ≠ 24 → v i = n i) (v20 : v 20 = nI k) (v4 : v 4 = nI u) (v21 : v 21 = nI ar) (v23 : v 23 = 0) (v24 : v 24 = nl) : MS P S n A k [] u ar [] nl (wr P S v (uA A 9 k 0)) := ⟨v, _, rfl, hv, v20, v4, v21, v23, v24, fun i hi => uA_r (by omega), fun j x hj => by simp at hj, uA_s, fun j c _ hj => by simp at hj, fun k' _ hne => ⟨uA_m hne, fun j _ => uA_n (by decide)⟩⟩
theorem mi_call (hP : P.length = 135) (n23 : n 23 = 0) (X : Mst n A D) (XR : ∀ r, r < 5 → Mrw A R r) (hl : (litR (litT D R 4) (R.getD 4 []) 0 0).1.length < 2 ^ 25) (hu : (litR (litT D R 4) (R.getD 4 []) 0 0).2 < 2 ^ 28) (K : ∀ h' nl', MS P S n A 0 (callT D R (R.getD 4 [])).1 (callT D R (R.getD 4 [])).2 0 [] nl' h' → Q none h') : wp (d + 13) 104 0 [some (.ref 135)] [] (wr P S n A) Q := by
  have hs : sN ≤ 135 := by decide
  have hs2 : sN ≤ 145 := by decide
  have hk : 0 < 4 := by decide
  have h0 : (0 : Int32) = nI 0 := rfl
  simp only [k_104_0, k_104_0N, k_104_1, k_104_5, k_104_5N, k_104_9, k_104_10, k_104_2, k_104_6, ogw hP, hw_20 hP, fw_19 hP, hs, am_cat, am_kill, Value.category, List.map_cons, List.map_nil, List.sum_cons, List.sum_nil, Option.toList_some, Option.toList_none, List.cons_append, List.nil_append, List.length_cons, List.length_nil, List.getD_cons_succ, List.getD_cons_zero, List.set_cons_succ, List.set_cons_zero, Nat.reduceAdd, Nat.reduceLT, Nat.reduceLeDiff, Nat.zero_le, Nat.zero_add, Nat.add_zero]
  rw [h0, k_104_11 (ow_9 hP (by decide)) hs2, sw_9 hP (by decide)]
  simp only [k_104_12, k_104_12N, k_104_13, k_104_17, k_104_17N, k_104_18, k_104_14, k_104_19, ogw hP, hw_4 hP, hw_21 hP, hs, am_cat, am_kill, Value.category, List.map_cons, List.map_nil, List.sum_cons, List.sum_nil, Option.toList_some, Option.toList_none, List.cons_append, List.nil_append, List.length_cons, List.length_nil, List.getD_cons_succ, List.getD_cons_zero, List.set_cons_succ, List.set_cons_zero, Nat.reduceAdd, Nat.reduceLT, Nat.reduceLeDiff, Nat.zero_le, Nat.zero_add, Nat.add_zero]
  have M : MS P S n A 0 [] 0 0 [] (n 24) (wr P S (upd (upd (upd n 20 (nI 0)) 4 0) 21 0) (uA A 9 0 (nI 0))) := ms_begin (fun i i1 i2 i3 i4 i5 => by rw [pk_un i3, pk_un i1, pk_un i2]) (by rw [pk_un (by decide), pk_un (by decide), pk_us]) (by rw [pk_un (by decide), pk_us]; rfl) (by rw [pk_us]; rfl) (by rw [pk_un (by decide), pk_un (by decide), pk_un (by decide)]; exact n23) (by rw [pk_un (by decide), pk_un (by decide), pk_un (by decide)])
  generalize wr P S (upd (upd (upd n 20 (nI 0)) 4 0) 21 0) (uA A 9 0 (nI 0)) = h1 at M
  simp only [k_104_22, k_104_22N, k_104_23, k_104_26, M.ov hP, am_cat, am_kill, Value.category, List.map_cons, List.map_nil, List.sum_cons, List.sum_nil, Option.toList_some, Option.toList_none, List.cons_append, List.nil_append, List.length_cons, List.length_nil, List.getD_cons_succ, List.getD_cons_zero, List.set_cons_succ, List.set_cons_zero, Nat.reduceAdd, Nat.reduceLT, Nat.reduceLeDiff, Nat.zero_le, Nat.zero_add, Nat.add_zero]
  refine mi_wordc hP hk [84, 97, 114, 103, 101, 116, 46, 114] (by decide) M (by decide) (fun h2 M2 => ?_)
  simp only [k_104_29, k_104_29N, k_104_30, k_104_33, M2.ov hP, am_cat, am_kill, Value.category, List.map_cons, List.map_nil, List.sum_cons, List.sum_nil, Option.toList_some, Option.toList_none, List.cons_append, List.nil_append, List.length_cons, List.length_nil, List.getD_cons_succ, List.getD_cons_zero, List.set_cons_succ, List.set_cons_zero, Nat.reduceAdd, Nat.reduceLT, Nat.reduceLeDiff, Nat.zero_le, Nat.zero_add, Nat.add_zero]
  refine mi_wordc hP hk [117, 110, 40] (by decide) M2 (by decide) (fun h3 M3 => ?_)
  simp only [k_104_36, k_104_36N, k_104_37, k_104_38, M3.ov hP, am_cat, am_kill, Value.category, List.map_cons, List.map_nil, List.sum_cons, List.sum_nil, Option.toList_some, Option.toList_none, List.cons_append, List.nil_append, List.length_cons, List.length_nil, List.getD_cons_succ, List.getD_cons_zero, List.set_cons_succ, List.set_cons_zero, Nat.reduceAdd, Nat.reduceLT, Nat.reduceLeDiff, Nat.zero_le, Nat.zero_add, Nat.add_zero]
  obtain ⟨x1, x2, x3, x4, x5⟩ := XR 4 (by decide)
  refine mi_planRow (r := 4) hP (by decide) (XR 4 (by decide)) M3 (by decide) (fun h4 M4 => ?_)
  have M4' : MS P S n A 0 (sx 2) 0 (4 - 4) ([] ++ (ftk (R.getD 4 []) 0 (4 * 40)).reverse) (n 24) h4 := M4
  simp only [k_104_41, k_104_41N, k_104_42, M4.ov hP, am_cat, am_kill, Value.category, List.map_cons, List.map_nil, List.sum_cons, List.sum_nil, Option.toList_some, Option.toList_none, List.cons_append, List.nil_append, List.length_cons, List.length_nil, List.getD_cons_succ, List.getD_cons_zero, List.set_cons_succ, List.set_cons_zero, Nat.reduceAdd, Nat.reduceLT, Nat.reduceLeDiff, Nat.zero_le, Nat.zero_add, Nat.add_zero]
  have s2 : (sx 2).length = 11 := rfl
  refine wl_row (m := d) (o := 4) hP hk (val_all hP hk X (fun r hr => XR r (by omega)) 4 (by decide)) (R.getD 4 []) 0 (4 * 40) 0 [] (sx 2) (n 24) h4 none x2 x4 x3 M4' (by rw [List.length_nil]; omega) (by rw [s2]; omega) hu (fun h5 nl5 o5 M5 => ?_)
  refine wl_nil hP M5 ?_
  simp only [k_104_45, k_104_45N, k_104_46, k_104_48, M5.ov hP, am_cat, am_kill, Value.category, List.map_cons, List.map_nil, List.sum_cons, List.sum_nil, Option.toList_some, Option.toList_none, List.cons_append, List.nil_append, List.length_cons, List.length_nil, List.getD_cons_succ, List.getD_cons_zero, List.set_cons_succ, List.set_cons_zero, Nat.reduceAdd, Nat.reduceLT, Nat.reduceLeDiff, Nat.zero_le, Nat.zero_add, Nat.add_zero]
  refine mi_put hP hk ⟨by decide, by decide⟩ M5 (by rw [List.length_append, s2]; omega) (fun h6 M6 => ?_)
  simp only [k_104_51, am_cat, am_kill, Value.category, List.map_cons, List.map_nil, List.sum_cons, List.sum_nil, Option.toList_some, Option.toList_none, List.cons_append, List.nil_append, List.length_cons, List.length_nil, List.getD_cons_succ, List.getD_cons_zero, List.set_cons_succ, List.set_cons_zero, Nat.reduceAdd, Nat.reduceLT, Nat.reduceLeDiff, Nat.zero_le, Nat.zero_add, Nat.add_zero]
  refine K h6 nl5 ?_
  rw [List.append_assoc] at M6
  exact M6
theorem mi_cp_loop (hP : P.length = 135) (hk : k < 4) {q : Nat} {tq : List Int32} (hq : q < 4) (hqk : q ≠ k) (T : Prt A0 q tq) (hc : ∀ c ∈ tq, chr c) (hl : tq.length < 2 ^ 27) : ∀ (j i : Nat) (h : AH) (t : List Int32), i + j = tq.length → MS P S n0 A0 k t u ar w nl h → t.length + j < 2 ^ 29 → (∀ h', MS P S n0 A0 k (t ++ cpl tq i j) u ar w nl h' → Q none h') → wp (d + 1) 125 2 [some (.ref 135), some (.int (nI q)), some (.int (nI i))] [] h Q := by
  obtain ⟨T1, T2⟩ := T
  intro j
  induction j with
  | zero =>
    intro i h t hi M hb K
    obtain ⟨n, A, hh, m1, m2, m3, m4, m5, m6, m7, m8, m9, m10, m11⟩ := id M
    have e1 : ¬ nI i < nI tq.length := nI_nlt (by omega) (by omega)
    subst hh
    simp only [k_125_2, k_125_3, k_125_3N, k_125_7, k_125_4, ogw hP, fw_19 hP, am_cat, am_kill, Value.category, List.map_cons, List.map_nil, List.sum_cons, List.sum_nil, Option.toList_some, Option.toList_none, List.cons_append, List.nil_append, List.length_cons, List.length_nil, List.getD_cons_succ, List.getD_cons_zero, List.set_cons_succ, List.set_cons_zero, Nat.reduceAdd, Nat.reduceLT, Nat.reduceLeDiff, Nat.zero_le, Nat.zero_add, Nat.add_zero]
    rw [k_125_8 (ow_9 hP hq), aw_9 hP hq, (m11 q hq hqk).1, T1]
    simp only [k_125_9, k_125_46, e1, if_false]
    exact K _ (by rw [show cpl tq i 0 = [] by cases i <;> rfl, List.append_nil]; exact M)
  | succ j ih =>
    intro i h t hi M hb K
    obtain ⟨n, A, hh, m1, m2, m3, m4, m5, m6, m7, m8, m9, m10, m11⟩ := id M
    have e1 : nI i < nI tq.length := nI_lt (by omega) (by omega)
    have e2 : (nI i < (325 : Int32)) ↔ i < 325 := nI_ltI (b := 325) (by omega) (by omega)
    have hil : i < tq.length := by omega
    have e3 : nI q * 325 + nI i = nI (q * 325 + i) := by rw [show (325 : Int32) = nI 325 from rfl, nI_mul, nI_add]
    subst hh
    simp only [k_125_2, k_125_3, k_125_3N, k_125_7, k_125_4, ogw hP, fw_19 hP, am_cat, am_kill, Value.category, List.map_cons, List.map_nil, List.sum_cons, List.sum_nil, Option.toList_some, Option.toList_none, List.cons_append, List.nil_append, List.length_cons, List.length_nil, List.getD_cons_succ, List.getD_cons_zero, List.set_cons_succ, List.set_cons_zero, Nat.reduceAdd, Nat.reduceLT, Nat.reduceLeDiff, Nat.zero_le, Nat.zero_add, Nat.add_zero]
    rw [k_125_8 (ow_9 hP hq), aw_9 hP hq, (m11 q hq hqk).1, T1]
    simp only [k_125_9, k_125_12, k_125_12N, k_125_13, k_125_14, k_125_17, e1, e2, if_true, am_cat, am_kill, Value.category, List.map_cons, List.map_nil, List.sum_cons, List.sum_nil, Option.toList_some, Option.toList_none, List.cons_append, List.nil_append, List.length_cons, List.length_nil, List.getD_cons_succ, List.getD_cons_zero, List.set_cons_succ, List.set_cons_zero, Nat.reduceAdd, Nat.reduceLT, Nat.reduceLeDiff, Nat.zero_le, Nat.zero_add, Nat.add_zero]
    have fin : chr (cpc tq i) → wp (d + 1) 125 37 [some (.ref 135), some (.int (nI q)), some (.int (nI i))] [.int (cpc tq i), .ref 135] (wr P S n A) Q := by
      intro hch
      simp only [k_125_37, M.ov hP, am_cat, am_kill, Value.category, List.map_cons, List.map_nil, List.sum_cons, List.sum_nil, Option.toList_some, Option.toList_none, List.cons_append, List.nil_append, List.length_cons, List.length_nil, List.getD_cons_succ, List.getD_cons_zero, List.set_cons_succ, List.set_cons_zero, Nat.reduceAdd, Nat.reduceLT, Nat.reduceLeDiff, Nat.zero_le, Nat.zero_add, Nat.add_zero]
      refine mi_put hP hk hch M (by omega) (fun h1 M1 => ?_)
      simp only [k_125_40, k_125_43, nI_1, am_cat, am_kill, Value.category, List.map_cons, List.map_nil, List.sum_cons, List.sum_nil, Option.toList_some, Option.toList_none, List.cons_append, List.nil_append, List.length_cons, List.length_nil, List.getD_cons_succ, List.getD_cons_zero, List.set_cons_succ, List.set_cons_zero, Nat.reduceAdd, Nat.reduceLT, Nat.reduceLeDiff, Nat.zero_le, Nat.zero_add, Nat.add_zero]
      refine ih (i + 1) h1 _ (by omega) M1 (by rw [List.length_append]; show t.length + 1 + j < _; omega) (fun h2 M2 => ?_)
      exact K h2 (by rw [List.append_assoc] at M2; exact M2)
    by_cases c : i < 325
    · have e4 : A 8 (q * 325 + i) = cpc tq i := by
        rw [(m11 q hq hqk).2 i c, T2 i tq[i] c (by simp [hil])]
        unfold cpc
        rw [if_pos c, List.getD_eq_getElem?_getD, List.getElem?_eq_getElem hil]
        rfl
      have hch : chr (cpc tq i) := by
        unfold cpc
        rw [if_pos c, List.getD_eq_getElem?_getD, List.getElem?_eq_getElem hil]
        exact hc _ (List.getElem_mem hil)
      simp only [c, if_true, k_125_20, k_125_20N, k_125_24, k_125_25, k_125_28, k_125_29, k_125_30, k_125_21, ogw hP, fw_18 hP, e3, am_cat, am_kill, Value.category, List.map_cons, List.map_nil, List.sum_cons, List.sum_nil, Option.toList_some, Option.toList_none, List.cons_append, List.nil_append, List.length_cons, List.length_nil, List.getD_cons_succ, List.getD_cons_zero, List.set_cons_succ, List.set_cons_zero, Nat.reduceAdd, Nat.reduceLT, Nat.reduceLeDiff, Nat.zero_le, Nat.zero_add, Nat.add_zero]
      rw [k_125_31 (ow_8 hP (by omega)), aw_8 hP (by omega), e4]
      simp only [k_125_32]
      exact fin hch
    · have e4 : (32 : Int32) = cpc tq i := by
        unfold cpc
        rw [if_neg c]
      simp only [c, if_false, k_125_35]
      rw [e4]
      exact fin (by rw [← e4]; exact ⟨by decide, by decide⟩)
theorem mi_copy (hP : P.length = 135) (hk : k < 4) {q : Nat} {tq : List Int32} (hq : q < 4) (hqk : q ≠ k) (T : Prt A0 q tq) (hc : ∀ c ∈ tq, chr c) (hl : tq.length < 2 ^ 27) (M : MS P S n0 A0 k t u ar w nl h) (hb : t.length < 2 ^ 28) (K : ∀ h', MS P S n0 A0 k (t ++ cpT tq) u ar w nl h' → Q none h') : wp (d + 1) 125 0 [some (.ref 135), some (.int (nI q)), none] [] h Q := by
  simp only [k_125_0, k_125_1, am_cat, am_kill, Value.category, List.map_cons, List.map_nil, List.sum_cons, List.sum_nil, Option.toList_some, Option.toList_none, List.cons_append, List.nil_append, List.length_cons, List.length_nil, List.getD_cons_succ, List.getD_cons_zero, List.set_cons_succ, List.set_cons_zero, Nat.reduceAdd, Nat.reduceLT, Nat.reduceLeDiff, Nat.zero_le, Nat.zero_add, Nat.add_zero]
  exact mi_cp_loop hP hk hq hqk T hc hl tq.length 0 h t (by omega) M (by omega) K
theorem mi_nm_loop (hP : P.length = 135) (hk : k < 4) {nm : List Int32} (T : ∀ (j : Nat) (c : Int32), nm[j]? = some c → A0 0 j = c) (hc : ∀ c ∈ nm, chr c) (hl : nm.length ≤ 40) : ∀ (j i : Nat) (h : AH) (t : List Int32), i + j = nm.length → MS P S n0 A0 k t u ar w nl h → t.length + j < 2 ^ 29 → (∀ h', MS P S n0 A0 k (t ++ nm.drop i) u ar w nl h' → Q none h') → wp (d + 1) 131 2 [some (.ref 135), some (.int (nI nm.length)), some (.int (nI i))] [] h Q := by
  intro j
  induction j with
  | zero =>
    intro i h t hi M hb K
    have e1 : ¬ nI i < nI nm.length := nI_nlt (by omega) (by omega)
    simp only [k_131_2, k_131_3, k_131_4, k_131_23, e1, if_false, am_cat, am_kill, Value.category, List.map_cons, List.map_nil, List.sum_cons, List.sum_nil, Option.toList_some, Option.toList_none, List.cons_append, List.nil_append, List.length_cons, List.length_nil, List.getD_cons_succ, List.getD_cons_zero, List.set_cons_succ, List.set_cons_zero, Nat.reduceAdd, Nat.reduceLT, Nat.reduceLeDiff, Nat.zero_le, Nat.zero_add, Nat.add_zero]
    exact K h (by rw [List.drop_eq_nil_of_le (by omega), List.append_nil]; exact M)
  | succ j ih =>
    intro i h t hi M hb K
    obtain ⟨n, A, hh, m1, m2, m3, m4, m5, m6, m7, m8⟩ := id M
    have e1 : nI i < nI nm.length := nI_lt (by omega) (by omega)
    have hil : i < nm.length := by omega
    have e4 : A 0 i = nm[i] := by rw [m7 0 (by decide), T i nm[i] (by simp [hil])]
    rw [List.drop_eq_getElem_cons hil] at K
    subst hh
    simp only [k_131_2, k_131_3, k_131_4, k_131_7, k_131_7N, k_131_8, k_131_8N, k_131_12, k_131_9, e1, if_true, ogw hP, fw_10 hP, am_cat, am_kill, Value.category, List.map_cons, List.map_nil, List.sum_cons, List.sum_nil, Option.toList_some, Option.toList_none, List.cons_append, List.nil_append, List.length_cons, List.length_nil, List.getD_cons_succ, List.getD_cons_zero, List.set_cons_succ, List.set_cons_zero, Nat.reduceAdd, Nat.reduceLT, Nat.reduceLeDiff, Nat.zero_le, Nat.zero_add, Nat.add_zero]
    rw [k_131_13 (ow_0 hP (by omega)), aw_0 hP (by omega), e4]
    simp only [k_131_14, M.ov hP, am_cat, am_kill, Value.category, List.map_cons, List.map_nil, List.sum_cons, List.sum_nil, Option.toList_some, Option.toList_none, List.cons_append, List.nil_append, List.length_cons, List.length_nil, List.getD_cons_succ, List.getD_cons_zero, List.set_cons_succ, List.set_cons_zero, Nat.reduceAdd, Nat.reduceLT, Nat.reduceLeDiff, Nat.zero_le, Nat.zero_add, Nat.add_zero]
    refine mi_put hP hk (hc _ (List.getElem_mem hil)) M (by omega) (fun h1 M1 => ?_)
    simp only [k_131_17, k_131_20, nI_1, am_cat, am_kill, Value.category, List.map_cons, List.map_nil, List.sum_cons, List.sum_nil, Option.toList_some, Option.toList_none, List.cons_append, List.nil_append, List.length_cons, List.length_nil, List.getD_cons_succ, List.getD_cons_zero, List.set_cons_succ, List.set_cons_zero, Nat.reduceAdd, Nat.reduceLT, Nat.reduceLeDiff, Nat.zero_le, Nat.zero_add, Nat.add_zero]
    refine ih (i + 1) h1 _ (by omega) M1 (by rw [List.length_append]; show t.length + 1 + j < _; omega) (fun h2 M2 => ?_)
    exact K h2 (by rw [List.append_assoc] at M2; exact M2)
theorem mi_name (hP : P.length = 135) (hk : k < 4) {nm : List Int32} (T : ∀ (j : Nat) (c : Int32), nm[j]? = some c → A0 0 j = c) (hc : ∀ c ∈ nm, chr c) (hl : nm.length ≤ 40) (M : MS P S n0 A0 k t u ar w nl h) (hb : t.length < 2 ^ 28) (K : ∀ h', MS P S n0 A0 k (t ++ nm) u ar w nl h' → Q none h') : wp (d + 1) 131 0 [some (.ref 135), some (.int (nI nm.length)), none] [] h Q := by
  simp only [k_131_0, k_131_1, am_cat, am_kill, Value.category, List.map_cons, List.map_nil, List.sum_cons, List.sum_nil, Option.toList_some, Option.toList_none, List.cons_append, List.nil_append, List.length_cons, List.length_nil, List.getD_cons_succ, List.getD_cons_zero, List.set_cons_succ, List.set_cons_zero, Nat.reduceAdd, Nat.reduceLT, Nat.reduceLeDiff, Nat.zero_le, Nat.zero_add, Nat.add_zero]
  exact mi_nm_loop hP hk T hc hl nm.length 0 h t (by omega) M (by omega) K
theorem mi_asn (hP : P.length = 135) (hk : k < 4) {x : Int64} (v : List Int32) (hv : [97, 115, 115, 101, 114, 116] ++ (wd x ++ [40]) = v) (hx : (wd x).length ≤ 8) (M : MS P S n0 A0 k t u ar w nl h) (hb : t.length < 2 ^ 28) (K : ∀ h', MS P S n0 A0 k (t ++ v) u ar w nl h' → Q none h') : wp (d + 2) 124 0 [some (.ref 135), some (.long x), none] [] h Q := by
  subst hv
  simp only [k_124_0, k_124_0N, k_124_1, k_124_4, M.ov hP, am_cat, am_kill, Value.category, List.map_cons, List.map_nil, List.sum_cons, List.sum_nil, Option.toList_some, Option.toList_none, List.cons_append, List.nil_append, List.length_cons, List.length_nil, List.getD_cons_succ, List.getD_cons_zero, List.set_cons_succ, List.set_cons_zero, Nat.reduceAdd, Nat.reduceLT, Nat.reduceLeDiff, Nat.zero_le, Nat.zero_add, Nat.add_zero]
  refine mi_wordc hP hk [97, 115, 115, 101, 114, 116] (by decide) M (by omega) (fun h1 M1 => ?_)
  simp only [k_124_7, k_124_7N, k_124_8, k_124_9, M1.ov hP, am_cat, am_kill, Value.category, List.map_cons, List.map_nil, List.sum_cons, List.sum_nil, Option.toList_some, Option.toList_none, List.cons_append, List.nil_append, List.length_cons, List.length_nil, List.getD_cons_succ, List.getD_cons_zero, List.set_cons_succ, List.set_cons_zero, Nat.reduceAdd, Nat.reduceLT, Nat.reduceLeDiff, Nat.zero_le, Nat.zero_add, Nat.add_zero]
  refine mi_word hP hk M1 (by rw [List.length_append]; show t.length + 6 < _; omega) (fun h2 M2 => ?_)
  simp only [k_124_12, k_124_12N, k_124_13, k_124_15, M2.ov hP, am_cat, am_kill, Value.category, List.map_cons, List.map_nil, List.sum_cons, List.sum_nil, Option.toList_some, Option.toList_none, List.cons_append, List.nil_append, List.length_cons, List.length_nil, List.getD_cons_succ, List.getD_cons_zero, List.set_cons_succ, List.set_cons_zero, Nat.reduceAdd, Nat.reduceLT, Nat.reduceLeDiff, Nat.zero_le, Nat.zero_add, Nat.add_zero]
  refine mi_put hP hk ⟨by decide, by decide⟩ M2 (by rw [List.length_append, List.length_append]; show t.length + 6 + _ < _; omega) (fun h3 M3 => ?_)
  simp only [k_124_18, am_cat, am_kill, Value.category, List.map_cons, List.map_nil, List.sum_cons, List.sum_nil, Option.toList_some, Option.toList_none, List.cons_append, List.nil_append, List.length_cons, List.length_nil, List.getD_cons_succ, List.getD_cons_zero, List.set_cons_succ, List.set_cons_zero, Nat.reduceAdd, Nat.reduceLT, Nat.reduceLeDiff, Nat.zero_le, Nat.zero_add, Nat.add_zero]
  refine K h3 ?_
  simp only [List.append_assoc] at M3
  exact M3
end MCA
