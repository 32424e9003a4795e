/-! THE REFERENCE EMITS, whole -/
def emT (W : Nat) : List (List (List Int32)) → Nat → List (List Int32)
  | [], _ => []
  | ls :: rest, i => (if 0 < i then [[]] else []) ++ ([sx 47] ++ ([sx 48 ++ (num (i : Int) ++ sx 49)] ++ (bodyE W ls ++ ([sx 50] ++ emT W rest (i + 1)))))
def emL (W : Nat) (TL : List (List (List Int32))) : List (List Int32) := [sx 46] ++ (emT W TL 0 ++ [sx 51])
def emB (W : Nat) : List (List (List Int32)) → Nat
  | [] => 0
  | ls :: r => brkN W ls + emB W r
theorem tx_one (Y : List Int32) : (tx [Y]).length = Y.length + 1 := by
  show ((Y ++ [10]) ++ []).length = _
  rw [List.append_nil, List.length_append]
  rfl
theorem brkN_le (W : Nat) (ls : List (List Int32)) : brkN W ls ≤ (bodyE W ls).length := by
  induction ls with
  | nil => exact Nat.zero_le _
  | cons l r ih =>
    show ((bkL W l).length - 1) + brkN W r ≤ (bkL W l ++ bodyE W r).length
    rw [List.length_append]
    omega
section ME2
variable {P S h : AH} {n : Nat → Int32} {A : Nat → Nat → Int32} {d W : Nat} {Q : Option Value → AH → Prop}
theorem em_loop (hP : P.length = 135) {TL : List (List (List Int32))} {B : Nat} (n00 : n 0 = nI W) (hW : W < 900) (n3 : n 3 = nI TL.length) (hT : TL.length ≤ 20) (hS : ∀ (i : Nat) (ls : List (List Int32)), TL[i]? = some ls → ls ≠ [] ∧ (∀ l ∈ ls, okL l) ∧ (jn ls).length ≤ 299 ∧ A 6 i = nI (jn ls).length ∧ ∀ (j : Nat) (c : Int32), (jn ls)[j]? = some c → Byt (A 4 (i * 75 + j / 4)) (j % 4) = c) : ∀ (rest : List (List (List Int32))) (i : Nat) (Ls : List (List Int32)) (br : Nat) (h : AH) (o2 : Option Value), TL.drop i = rest → i ≤ TL.length → br ≤ Ls.length → (tx Ls).length + (tx (emT W rest i ++ [sx 51])).length ≤ 16800 → ES P S n A (tx Ls) Ls.length (mxl Ls) br h → (∀ h' o2, ES P S n A (tx (Ls ++ emT W rest i)) (Ls ++ emT W rest i).length (mxl (Ls ++ emT W rest i)) (br + emB W rest) h' → wp (d + 5) 134 170 [some (.ref 135), some (.int (nI TL.length)), o2] [] h' Q) → wp (d + 5) 134 55 [some (.ref 135), some (.int (nI i)), o2] [] h Q := by
  intro rest
  induction rest with
  | nil =>
    intro i Ls br h o2 hd hi hbr hb M K
    have hil : TL.length ≤ i := by rw [List.drop_eq_nil_iff] at hd; exact hd
    obtain rfl : i = TL.length := by omega
    have e1 : ¬ nI TL.length < nI TL.length := nI_nlt (Nat.le_refl _) (by omega)
    simp only [k_134_55, k_134_56, k_134_56N, k_134_60, k_134_57, M.og hP, M.f3 hP, n3, e1, if_false, am_cat, am_kill, Value.category, List.map_cons, List.map_nil, List.sum_cons, List.sum_nil, Option.toList_some, Option.toList_none, List.cons_append, List.nil_append, List.length_cons, List.length_nil, List.getD_cons_succ, List.getD_cons_zero, List.set_cons_succ, List.set_cons_zero, Nat.reduceAdd, Nat.reduceLT, Nat.reduceLeDiff, Nat.zero_le, Nat.zero_add, Nat.add_zero]
    exact K h o2 (by rw [show emT W [] TL.length = [] from rfl, List.append_nil]; exact M)
  | cons ls rest ih =>
    intro i Ls br h o2 hd hi hbr hb M K
    have hil : i < TL.length := by
      have := congrArg List.length hd
      rw [List.length_drop, List.length_cons] at this
      omega
    have hls : TL[i]? = some ls := by
      rw [List.drop_eq_getElem_cons hil] at hd
      injection hd with h1 _
      rw [List.getElem?_eq_getElem hil, h1]
    have hrest : TL.drop (i + 1) = rest := by
      rw [List.drop_eq_getElem_cons hil] at hd
      injection hd
    obtain ⟨s1, s2, s3, s4, s5⟩ := hS i ls hls
    have e1 : nI i < nI TL.length := nI_lt (by omega) (by omega)
    have e2 : ((0 : Int32) < nI i) ↔ 0 < i := nI_ltI (a := 0) (by omega) (by omega)
    have eT : emT W (ls :: rest) i = (if 0 < i then [[]] else []) ++ ([sx 47] ++ ([sx 48 ++ (num (i : Int) ++ sx 49)] ++ (bodyE W ls ++ ([sx 50] ++ emT W rest (i + 1))))) := rfl
    rw [eT] at hb K
    have s47 : (sx 47).length = 9 := rfl
    have s48 : (sx 48).length = 20 := rfl
    have s49 : (sx 49).length = 4 := rfl
    have s50 : (sx 50).length = 5 := rfl
    have nl := num_len (i : Int)
    have tb : ∀ (a : List (List Int32)), (tx a).length = (tx a).length := fun _ => rfl
    simp only [k_134_55, k_134_56, k_134_56N, k_134_60, k_134_63, k_134_64, k_134_57, M.og hP, M.f3 hP, n3, e1, e2, if_true, am_cat, am_kill, Value.category, List.map_cons, List.map_nil, List.sum_cons, List.sum_nil, Option.toList_some, Option.toList_none, List.cons_append, List.nil_append, List.length_cons, List.length_nil, List.getD_cons_succ, List.getD_cons_zero, List.set_cons_succ, List.set_cons_zero, Nat.reduceAdd, Nat.reduceLT, Nat.reduceLeDiff, Nat.zero_le, Nat.zero_add, Nat.add_zero]
    have fin : ∀ (Ls : List (List Int32)) (h : AH) (o2 : Option Value), br ≤ Ls.length → (tx Ls).length + (tx (([sx 47] ++ ([sx 48 ++ (num (i : Int) ++ sx 49)] ++ (bodyE W ls ++ ([sx 50] ++ emT W rest (i + 1))))) ++ [sx 51])).length ≤ 16800 → ES P S n A (tx Ls) Ls.length (mxl Ls) br h → (∀ h' o2, ES P S n A (tx (Ls ++ ([sx 47] ++ ([sx 48 ++ (num (i : Int) ++ sx 49)] ++ (bodyE W ls ++ ([sx 50] ++ emT W rest (i + 1))))))) (Ls ++ ([sx 47] ++ ([sx 48 ++ (num (i : Int) ++ sx 49)] ++ (bodyE W ls ++ ([sx 50] ++ emT W rest (i + 1)))))).length (mxl (Ls ++ ([sx 47] ++ ([sx 48 ++ (num (i : Int) ++ sx 49)] ++ (bodyE W ls ++ ([sx 50] ++ emT W rest (i + 1))))))) (br + emB W (ls :: rest)) h' → wp (d + 5) 134 170 [some (.ref 135), some (.int (nI TL.length)), o2] [] h' Q) → wp (d + 5) 134 75 [some (.ref 135), some (.int (nI i)), o2] [] h Q := by
      intro Ls h o2 hbr hb M K
      have tg := tx_ge Ls
      simp only [tx_app2, List.length_append, tx_one, s47, s48, s49, s50] at hb
      simp only [k_134_75, k_134_75N, k_134_79, k_134_80, k_134_80N, k_134_81, k_134_76, k_134_82, M.og hP, M.f6 hP, M.ov hP, am_cat, am_kill, Value.category, List.map_cons, List.map_nil, List.sum_cons, List.sum_nil, Option.toList_some, Option.toList_none, List.cons_append, List.nil_append, List.length_cons, List.length_nil, List.getD_cons_succ, List.getD_cons_zero, List.set_cons_succ, List.set_cons_zero, Nat.reduceAdd, Nat.reduceLT, Nat.reduceLeDiff, Nat.zero_le, Nat.zero_add, Nat.add_zero]
      refine es_blanks (m := 4) hP (by decide) M (by omega) (fun h1 M1 => ?_)
      simp only [k_134_85, k_134_85N, k_134_86, k_134_89, M1.ov hP, am_cat, am_kill, Value.category, List.map_cons, List.map_nil, List.sum_cons, List.sum_nil, Option.toList_some, Option.toList_none, List.cons_append, List.nil_append, List.length_cons, List.length_nil, List.getD_cons_succ, List.getD_cons_zero, List.set_cons_succ, List.set_cons_zero, Nat.reduceAdd, Nat.reduceLT, Nat.reduceLeDiff, Nat.zero_le, Nat.zero_add, Nat.add_zero]
      refine es_word hP [64, 84, 101, 115, 116] (by decide) (by unfold asc; decide) M1 (by rw [List.length_append, rp_len]; omega) (fun h2 M2 => ?_)
      rw [List.append_assoc] at M2
      have M2' : ES P S n A (tx Ls ++ sx 47) Ls.length (mxl Ls) br h2 := M2
      simp only [k_134_92, k_134_92N, k_134_93, k_134_94, M2'.ov hP, am_cat, am_kill, Value.category, List.map_cons, List.map_nil, List.sum_cons, List.sum_nil, Option.toList_some, Option.toList_none, List.cons_append, List.nil_append, List.length_cons, List.length_nil, List.getD_cons_succ, List.getD_cons_zero, List.set_cons_succ, List.set_cons_zero, Nat.reduceAdd, Nat.reduceLT, Nat.reduceLeDiff, Nat.zero_le, Nat.zero_add, Nat.add_zero]
      refine es_end hP (by omega) (by omega) M2' (by rw [s47]; omega) (fun h3 M3 => ?_)
      have tl1 : (tx (Ls ++ [sx 47])).length = (tx Ls).length + 10 := by rw [tx_app2, List.length_append, tx_one, s47]
      have tg1 := tx_ge (Ls ++ [sx 47])
      simp only [k_134_97, k_134_97N, k_134_101, k_134_102, k_134_102N, k_134_103, k_134_98, k_134_104, M3.og hP, M3.f6 hP, M3.ov hP, am_cat, am_kill, Value.category, List.map_cons, List.map_nil, List.sum_cons, List.sum_nil, Option.toList_some, Option.toList_none, List.cons_append, List.nil_append, List.length_cons, List.length_nil, List.getD_cons_succ, List.getD_cons_zero, List.set_cons_succ, List.set_cons_zero, Nat.reduceAdd, Nat.reduceLT, Nat.reduceLeDiff, Nat.zero_le, Nat.zero_add, Nat.add_zero]
      refine es_blanks (m := 4) hP (by decide) M3 (by omega) (fun h4 M4 => ?_)
      simp only [k_134_107, k_134_107N, k_134_108, k_134_111, M4.ov hP, am_cat, am_kill, Value.category, List.map_cons, List.map_nil, List.sum_cons, List.sum_nil, Option.toList_some, Option.toList_none, List.cons_append, List.nil_append, List.length_cons, List.length_nil, List.getD_cons_succ, List.getD_cons_zero, List.set_cons_succ, List.set_cons_zero, Nat.reduceAdd, Nat.reduceLT, Nat.reduceLeDiff, Nat.zero_le, Nat.zero_add, Nat.add_zero]
      refine es_word hP [112, 117, 98, 108, 105, 99, 32, 118] (by decide) (by unfold asc; decide) M4 (by rw [List.length_append, rp_len]; omega) (fun h5 M5 => ?_)
      simp only [k_134_114, k_134_114N, k_134_115, k_134_118, M5.ov hP, am_cat, am_kill, Value.category, List.map_cons, List.map_nil, List.sum_cons, List.sum_nil, Option.toList_some, Option.toList_none, List.cons_append, List.nil_append, List.length_cons, List.length_nil, List.getD_cons_succ, List.getD_cons_zero, List.set_cons_succ, List.set_cons_zero, Nat.reduceAdd, Nat.reduceLT, Nat.reduceLeDiff, Nat.zero_le, Nat.zero_add, Nat.add_zero]
      refine es_word hP [111, 105, 100, 32, 116, 101, 115, 116] (by decide) (by unfold asc; decide) M5 (by simp only [List.length_append, rp_len, List.length_cons, List.length_nil]; omega) (fun h6 M6 => ?_)
      simp only [k_134_121, k_134_121N, k_134_122, k_134_123, M6.ov hP, am_cat, am_kill, Value.category, List.map_cons, List.map_nil, List.sum_cons, List.sum_nil, Option.toList_some, Option.toList_none, List.cons_append, List.nil_append, List.length_cons, List.length_nil, List.getD_cons_succ, List.getD_cons_zero, List.set_cons_succ, List.set_cons_zero, Nat.reduceAdd, Nat.reduceLT, Nat.reduceLeDiff, Nat.zero_le, Nat.zero_add, Nat.add_zero]
      refine es_num hP (by omega) M6 (by simp only [List.length_append, rp_len, List.length_cons, List.length_nil]; omega) (fun h7 M7 => ?_)
      simp only [k_134_126, k_134_126N, k_134_127, k_134_130, M7.ov hP, am_cat, am_kill, Value.category, List.map_cons, List.map_nil, List.sum_cons, List.sum_nil, Option.toList_some, Option.toList_none, List.cons_append, List.nil_append, List.length_cons, List.length_nil, List.getD_cons_succ, List.getD_cons_zero, List.set_cons_succ, List.set_cons_zero, Nat.reduceAdd, Nat.reduceLT, Nat.reduceLeDiff, Nat.zero_le, Nat.zero_add, Nat.add_zero]
      refine es_word hP (sx 49) (by decide) (by unfold asc; decide) M7 (by simp only [List.length_append, rp_len, List.length_cons, List.length_nil]; omega) (fun h8 M8 => ?_)
      have M8' : ES P S n A (tx (Ls ++ [sx 47]) ++ (sx 48 ++ (num (i : Int) ++ sx 49))) (Ls ++ [sx 47]).length (mxl (Ls ++ [sx 47])) br h8 := by
        rw [show sx 48 = rp 4 ++ ([112, 117, 98, 108, 105, 99, 32, 118] ++ [111, 105, 100, 32, 116, 101, 115, 116]) from rfl]
        simp only [List.append_assoc] at M8 ⊢
        exact M8
      simp only [k_134_133, k_134_133N, k_134_134, k_134_135, M8'.ov hP, am_cat, am_kill, Value.category, List.map_cons, List.map_nil, List.sum_cons, List.sum_nil, Option.toList_some, Option.toList_none, List.cons_append, List.nil_append, List.length_cons, List.length_nil, List.getD_cons_succ, List.getD_cons_zero, List.set_cons_succ, List.set_cons_zero, Nat.reduceAdd, Nat.reduceLT, Nat.reduceLeDiff, Nat.zero_le, Nat.zero_add, Nat.add_zero]
      refine es_end hP (by omega) (by omega) M8' (by simp only [List.length_append, s48, s49]; omega) (fun h9 M9 => ?_)
      rw [List.append_assoc] at M9
      have tl2 : (tx (Ls ++ ([sx 47] ++ [sx 48 ++ (num (i : Int) ++ sx 49)]))).length = (tx Ls).length + 10 + (20 + ((num (i : Int)).length + 4) + 1) := by
        rw [tx_app2, List.length_append, tx_app2, List.length_append, tx_one, tx_one, s47, List.length_append, List.length_append, s48, s49]
        omega
      simp only [k_134_138, k_134_138N, k_134_139, k_134_140, M9.ov hP, am_cat, am_kill, Value.category, List.map_cons, List.map_nil, List.sum_cons, List.sum_nil, Option.toList_some, Option.toList_none, List.cons_append, List.nil_append, List.length_cons, List.length_nil, List.getD_cons_succ, List.getD_cons_zero, List.set_cons_succ, List.set_cons_zero, Nat.reduceAdd, Nat.reduceLT, Nat.reduceLeDiff, Nat.zero_le, Nat.zero_add, Nat.add_zero]
      refine es_body hP n00 hW (by omega) s1 s2 s3 s4 s5 (by rw [List.length_append]; omega) (by omega) M9 (fun h10 M10 => ?_)
      rw [List.append_assoc] at M10
      have tl3 : (tx (Ls ++ (([sx 47] ++ [sx 48 ++ (num (i : Int) ++ sx 49)]) ++ bodyE W ls))).length = (tx Ls).length + 10 + (20 + ((num (i : Int)).length + 4) + 1) + (tx (bodyE W ls)).length := by
        rw [← List.append_assoc, tx_app2, List.length_append, tl2]
      have tg3 := tx_ge (Ls ++ (([sx 47] ++ [sx 48 ++ (num (i : Int) ++ sx 49)]) ++ bodyE W ls))
      simp only [k_134_143, k_134_143N, k_134_147, k_134_148, k_134_148N, k_134_149, k_134_144, k_134_150, M10.og hP, M10.f6 hP, M10.ov hP, am_cat, am_kill, Value.category, List.map_cons, List.map_nil, List.sum_cons, List.sum_nil, Option.toList_some, Option.toList_none, List.cons_append, List.nil_append, List.length_cons, List.length_nil, List.getD_cons_succ, List.getD_cons_zero, List.set_cons_succ, List.set_cons_zero, Nat.reduceAdd, Nat.reduceLT, Nat.reduceLeDiff, Nat.zero_le, Nat.zero_add, Nat.add_zero]
      refine es_blanks (m := 4) hP (by decide) M10 (by omega) (fun h11 M11 => ?_)
      simp only [k_134_153, k_134_153N, k_134_154, k_134_156, M11.ov hP, am_cat, am_kill, Value.category, List.map_cons, List.map_nil, List.sum_cons, List.sum_nil, Option.toList_some, Option.toList_none, List.cons_append, List.nil_append, List.length_cons, List.length_nil, List.getD_cons_succ, List.getD_cons_zero, List.set_cons_succ, List.set_cons_zero, Nat.reduceAdd, Nat.reduceLT, Nat.reduceLeDiff, Nat.zero_le, Nat.zero_add, Nat.add_zero]
      refine es_out hP ⟨by decide, by decide⟩ (by rw [List.length_append, rp_len]; omega) M11 (fun h12 M12 => ?_)
      rw [List.append_assoc] at M12
      have M12' : ES P S n A (tx (Ls ++ (([sx 47] ++ [sx 48 ++ (num (i : Int) ++ sx 49)]) ++ bodyE W ls)) ++ sx 50) (Ls ++ (([sx 47] ++ [sx 48 ++ (num (i : Int) ++ sx 49)]) ++ bodyE W ls)).length (mxl (Ls ++ (([sx 47] ++ [sx 48 ++ (num (i : Int) ++ sx 49)]) ++ bodyE W ls))) (br + brkN W ls) h12 := M12
      simp only [k_134_159, k_134_159N, k_134_160, k_134_161, M12'.ov hP, am_cat, am_kill, Value.category, List.map_cons, List.map_nil, List.sum_cons, List.sum_nil, Option.toList_some, Option.toList_none, List.cons_append, List.nil_append, List.length_cons, List.length_nil, List.getD_cons_succ, List.getD_cons_zero, List.set_cons_succ, List.set_cons_zero, Nat.reduceAdd, Nat.reduceLT, Nat.reduceLeDiff, Nat.zero_le, Nat.zero_add, Nat.add_zero]
      refine es_end (Ls := Ls ++ (([sx 47] ++ [sx 48 ++ (num (i : Int) ++ sx 49)]) ++ bodyE W ls)) (Y := sx 50) hP (by omega) (by omega) M12' (by rw [s50]; omega) (fun h13 M13 => ?_)
      simp only [k_134_164, k_134_167, nI_1, am_cat, am_kill, Value.category, List.map_cons, List.map_nil, List.sum_cons, List.sum_nil, Option.toList_some, Option.toList_none, List.cons_append, List.nil_append, List.length_cons, List.length_nil, List.getD_cons_succ, List.getD_cons_zero, List.set_cons_succ, List.set_cons_zero, Nat.reduceAdd, Nat.reduceLT, Nat.reduceLeDiff, Nat.zero_le, Nat.zero_add, Nat.add_zero]
      have hbn : br + brkN W ls ≤ (Ls ++ (([sx 47] ++ [sx 48 ++ (num (i : Int) ++ sx 49)]) ++ bodyE W ls) ++ [sx 50]).length := by
        have := brkN_le W ls
        simp only [List.length_append, List.length_cons, List.length_nil]
        omega
      refine ih (i + 1) _ (br + brkN W ls) h13 _ hrest (by omega) hbn ?_ M13 (fun h14 o14 M14 => ?_)
      · rw [tx_app2, List.length_append, tl3, tx_one, s50, tx_app2, List.length_append, tx_one]
        omega
      · refine K h14 o14 ?_
        rw [show br + emB W (ls :: rest) = br + brkN W ls + emB W rest by show br + (brkN W ls + emB W rest) = _; omega]
        simp only [List.append_assoc] at M14 ⊢
        exact M14
    by_cases c : 0 < i
    · rw [if_pos c] at hb K
      have tg := tx_ge Ls
      have tl0 : (tx (Ls ++ [[]])).length = (tx Ls).length + 1 := by rw [tx_app2, List.length_append, tx_one]; rfl
      simp only [c, if_true, k_134_67, k_134_67N, k_134_68, k_134_68N, k_134_69, k_134_72, M.og hP, M.f6 hP, M.ov hP, am_cat, am_kill, Value.category, List.map_cons, List.map_nil, List.sum_cons, List.sum_nil, Option.toList_some, Option.toList_none, List.cons_append, List.nil_append, List.length_cons, List.length_nil, List.getD_cons_succ, List.getD_cons_zero, List.set_cons_succ, List.set_cons_zero, Nat.reduceAdd, Nat.reduceLT, Nat.reduceLeDiff, Nat.zero_le, Nat.zero_add, Nat.add_zero]
      have M0 : ES P S n A (tx Ls ++ []) Ls.length (mxl Ls) br h := by rw [List.append_nil]; exact M
      refine es_end hP (by omega) (by omega) M0 (by simp only [tx_app2, List.length_append, tx_one] at hb; simp only [List.length_nil]; omega) (fun h1 M1 => ?_)
      refine fin (Ls ++ [[]]) h1 _ (by rw [List.length_append]; omega) ?_ M1 (fun h2 o M2 => K h2 o ?_)
      · rw [tl0]
        simp only [tx_app2, List.length_append, tx_one, List.length_nil] at hb ⊢
        omega
      · rw [List.append_assoc] at M2
        exact M2
    · rw [if_neg c, List.nil_append] at hb K
      simp only [c, if_false]
      exact fin Ls h _ hbr hb M K
theorem mi_emit (hP : P.length = 135) {TL : List (List (List Int32))} (n00 : n 0 = nI W) (hW : W < 900) (n3 : n 3 = nI TL.length) (hT : TL.length ≤ 20) (hS : ∀ (i : Nat) (ls : List (List Int32)), TL[i]? = some ls → ls ≠ [] ∧ (∀ l ∈ ls, okL l) ∧ (jn ls).length ≤ 299 ∧ A 6 i = nI (jn ls).length ∧ ∀ (j : Nat) (c : Int32), (jn ls)[j]? = some c → Byt (A 4 (i * 75 + j / 4)) (j % 4) = c) (hb : (tx (emL W TL)).length ≤ 16800) (K : ∀ h', ES P S n A (tx (emL W TL)) (emL W TL).length (mxl (emL W TL)) (emB W TL) h' → Q (some (.int (nI (tx (emL W TL)).length))) h') : wp (d + 5) 134 0 [some (.ref 135), none, none] [] (wr P S n A) Q := by
  have hs : sN ≤ 135 := by decide
  have s46 : (sx 46).length = 25 := rfl
  have s51 : (sx 51).length = 1 := rfl
  simp only [k_134_0, k_134_0N, k_134_1, k_134_5, k_134_5N, k_134_6, k_134_10, k_134_10N, k_134_11, k_134_15, k_134_15N, k_134_16, k_134_2, k_134_7, k_134_12, k_134_17, ogw hP, hw_6 hP, hw_7 hP, hw_8 hP, hw_9 hP, hs, am_cat, am_kill, Value.category, List.map_cons, List.map_nil, List.sum_cons, List.sum_nil, Option.toList_some, Option.toList_none, List.cons_append, List.nil_append, List.length_cons, List.length_nil, List.getD_cons_succ, List.getD_cons_zero, List.set_cons_succ, List.set_cons_zero, Nat.reduceAdd, Nat.reduceLT, Nat.reduceLeDiff, Nat.zero_le, Nat.zero_add, Nat.add_zero]
  have M : ES P S n A [] 0 0 0 (wr P S (upd (upd (upd (upd n 6 0) 7 0) 8 0) 9 0) A) := ⟨_, A, rfl, fun i i1 i2 i3 i4 => by rw [pk_un i4, pk_un i3, pk_un i2, pk_un i1], by rw [pk_un (by decide), pk_un (by decide), pk_un (by decide), pk_us]; rfl, by rw [pk_un (by decide), pk_un (by decide), pk_us]; rfl, by rw [pk_un (by decide), pk_us]; rfl, by rw [pk_us]; rfl, fun _ _ => rfl, fun j c hj => by simp at hj, fun c hc => by simp at hc⟩
  generalize wr P S (upd (upd (upd (upd n 6 0) 7 0) 8 0) 9 0) A = h1 at M
  have eL : emL W TL = [sx 46] ++ (emT W TL 0 ++ [sx 51]) := rfl
  have hb2 := hb
  rw [eL, tx_app2, List.length_append, tx_one, s46] at hb2
  simp only [k_134_20, k_134_20N, k_134_21, k_134_24, M.ov hP, am_cat, am_kill, Value.category, List.map_cons, List.map_nil, List.sum_cons, List.sum_nil, Option.toList_some, Option.toList_none, List.cons_append, List.nil_append, List.length_cons, List.length_nil, List.getD_cons_succ, List.getD_cons_zero, List.set_cons_succ, List.set_cons_zero, Nat.reduceAdd, Nat.reduceLT, Nat.reduceLeDiff, Nat.zero_le, Nat.zero_add, Nat.add_zero]
  refine es_word hP [112, 117, 98, 108, 105, 99, 32, 99] (by decide) (by unfold asc; decide) M (by decide) (fun h2 M2 => ?_)
  simp only [k_134_27, k_134_27N, k_134_28, k_134_31, M2.ov hP, am_cat, am_kill, Value.category, List.map_cons, List.map_nil, List.sum_cons, List.sum_nil, Option.toList_some, Option.toList_none, List.cons_append, List.nil_append, List.length_cons, List.length_nil, List.getD_cons_succ, List.getD_cons_zero, List.set_cons_succ, List.set_cons_zero, Nat.reduceAdd, Nat.reduceLT, Nat.reduceLeDiff, Nat.zero_le, Nat.zero_add, Nat.add_zero]
  refine es_word hP [108, 97, 115, 115, 32] (by decide) (by unfold asc; decide) M2 (by decide) (fun h3 M3 => ?_)
  simp only [k_134_34, k_134_34N, k_134_35, k_134_38, M3.ov hP, am_cat, am_kill, Value.category, List.map_cons, List.map_nil, List.sum_cons, List.sum_nil, Option.toList_some, Option.toList_none, List.cons_append, List.nil_append, List.length_cons, List.length_nil, List.getD_cons_succ, List.getD_cons_zero, List.set_cons_succ, List.set_cons_zero, Nat.reduceAdd, Nat.reduceLT, Nat.reduceLeDiff, Nat.zero_le, Nat.zero_add, Nat.add_zero]
  refine es_word hP [84, 97, 114, 103, 101, 116, 84, 101] (by decide) (by unfold asc; decide) M3 (by decide) (fun h4 M4 => ?_)
  simp only [k_134_41, k_134_41N, k_134_42, k_134_45, M4.ov hP, am_cat, am_kill, Value.category, List.map_cons, List.map_nil, List.sum_cons, List.sum_nil, Option.toList_some, Option.toList_none, List.cons_append, List.nil_append, List.length_cons, List.length_nil, List.getD_cons_succ, List.getD_cons_zero, List.set_cons_succ, List.set_cons_zero, Nat.reduceAdd, Nat.reduceLT, Nat.reduceLeDiff, Nat.zero_le, Nat.zero_add, Nat.add_zero]
  refine es_word hP [115, 116, 32, 123] (by decide) (by unfold asc; decide) M4 (by decide) (fun h5 M5 => ?_)
  have M5' : ES P S n A (tx [] ++ sx 46) ([] : List (List Int32)).length (mxl []) 0 h5 := M5
  simp only [k_134_48, k_134_48N, k_134_49, k_134_50, M5'.ov hP, am_cat, am_kill, Value.category, List.map_cons, List.map_nil, List.sum_cons, List.sum_nil, Option.toList_some, Option.toList_none, List.cons_append, List.nil_append, List.length_cons, List.length_nil, List.getD_cons_succ, List.getD_cons_zero, List.set_cons_succ, List.set_cons_zero, Nat.reduceAdd, Nat.reduceLT, Nat.reduceLeDiff, Nat.zero_le, Nat.zero_add, Nat.add_zero]
  refine es_end (Ls := []) (Y := sx 46) hP (by decide) (by decide) M5' (by rw [s46]; decide) (fun h6 M6 => ?_)
  simp only [k_134_53, k_134_54, am_cat, am_kill, Value.category, List.map_cons, List.map_nil, List.sum_cons, List.sum_nil, Option.toList_some, Option.toList_none, List.cons_append, List.nil_append, List.length_cons, List.length_nil, List.getD_cons_succ, List.getD_cons_zero, List.set_cons_succ, List.set_cons_zero, Nat.reduceAdd, Nat.reduceLT, Nat.reduceLeDiff, Nat.zero_le, Nat.zero_add, Nat.add_zero]
  rw [show some (Value.int (0 : Int32)) = some (.int (nI 0)) from rfl]
  have tl1 : (tx ([] ++ [sx 46])).length = 26 := by rw [List.nil_append, tx_one, s46]
  refine em_loop (B := 0) hP n00 hW n3 hT hS TL 0 ([] ++ [sx 46]) 0 h6 _ rfl (Nat.zero_le _) (Nat.zero_le _) (by rw [tl1]; omega) M6 (fun h7 o7 M7 => ?_)
  rw [List.nil_append] at M7
  rw [Nat.zero_add] at M7
  have tl2 : (tx ([sx 46] ++ emT W TL 0)).length = 26 + (tx (emT W TL 0)).length := by rw [tx_app2, List.length_append, tx_one, s46]
  have hb3 := hb2
  rw [tx_app2, List.length_append, tx_one, s51] at hb3
  have tg := tx_ge ([sx 46] ++ emT W TL 0)
  simp only [k_134_170, k_134_170N, k_134_174, k_134_175, k_134_175N, k_134_176, k_134_171, k_134_178, M7.og hP, M7.f6 hP, M7.ov hP, am_cat, am_kill, Value.category, List.map_cons, List.map_nil, List.sum_cons, List.sum_nil, Option.toList_some, Option.toList_none, List.cons_append, List.nil_append, List.length_cons, List.length_nil, List.getD_cons_succ, List.getD_cons_zero, List.set_cons_succ, List.set_cons_zero, Nat.reduceAdd, Nat.reduceLT, Nat.reduceLeDiff, Nat.zero_le, Nat.zero_add, Nat.add_zero]
  refine es_out hP ⟨by decide, by decide⟩ (by omega) M7 (fun h8 M8 => ?_)
  have M8' : ES P S n A (tx ([sx 46] ++ emT W TL 0) ++ sx 51) ([sx 46] ++ emT W TL 0).length (mxl ([sx 46] ++ emT W TL 0)) (emB W TL) h8 := M8
  simp only [k_134_181, k_134_181N, k_134_182, k_134_183, M8'.ov hP, am_cat, am_kill, Value.category, List.map_cons, List.map_nil, List.sum_cons, List.sum_nil, Option.toList_some, Option.toList_none, List.cons_append, List.nil_append, List.length_cons, List.length_nil, List.getD_cons_succ, List.getD_cons_zero, List.set_cons_succ, List.set_cons_zero, Nat.reduceAdd, Nat.reduceLT, Nat.reduceLeDiff, Nat.zero_le, Nat.zero_add, Nat.add_zero]
  refine es_end (Ls := [sx 46] ++ emT W TL 0) (Y := sx 51) hP (by omega) (by omega) M8' (by rw [s51]; omega) (fun h9 M9 => ?_)
  rw [List.append_assoc, ← eL] at M9
  simp only [k_134_186, k_134_186N, k_134_190, k_134_187, M9.og hP, M9.f6 hP, am_cat, am_kill, Value.category, List.map_cons, List.map_nil, List.sum_cons, List.sum_nil, Option.toList_some, Option.toList_none, List.cons_append, List.nil_append, List.length_cons, List.length_nil, List.getD_cons_succ, List.getD_cons_zero, List.set_cons_succ, List.set_cons_zero, Nat.reduceAdd, Nat.reduceLT, Nat.reduceLeDiff, Nat.zero_le, Nat.zero_add, Nat.add_zero]
  exact K h9 M9
end ME2
