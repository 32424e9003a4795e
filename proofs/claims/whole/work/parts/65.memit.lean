/-! THE REFERENCE EMITS -/
def lb : List Int32 → Nat
  | [] => 0
  | c :: r => if c = 32 then lb r + 1 else 0
def bkL (W : Nat) (l : List Int32) : List (List Int32) := brk W (8 + lb l) 100 (8 + lb l) (l.drop (lb l))
def bodyE (W : Nat) (ls : List (List Int32)) : List (List Int32) := ls.flatMap (bkL W)
def brkN (W : Nat) : List (List Int32) → Nat
  | [] => 0
  | l :: r => ((bkL W l).length - 1) + brkN W r
def okL (l : List Int32) : Prop := lb l ≤ 4 ∧ (∃ c, (l.drop (lb l)).head? = some c) ∧ ∀ c ∈ l, asc c ∧ c ≠ 10
def jn : List (List Int32) → List Int32
  | [] => []
  | [l] => l
  | l :: r => l ++ (10 :: jn r)
theorem lb_split : ∀ l : List Int32, l = rp (lb l) ++ l.drop (lb l) := by
  intro l
  induction l with
  | nil => rfl
  | cons c r ih =>
    unfold lb
    by_cases h : c = 32
    · rw [if_pos h]
      show c :: r = 32 :: (rp (lb r) ++ r.drop (lb r))
      rw [h, ← ih]
    · rw [if_neg h]
      rfl
theorem lb_head : ∀ (l : List Int32) (c : Int32), (l.drop (lb l)).head? = some c → c ≠ 32 := by
  intro l
  induction l with
  | nil => intro c h; cases h
  | cons a r ih =>
    intro c h
    unfold lb at h
    by_cases ha : a = 32
    · rw [if_pos ha] at h
      exact ih c h
    · rw [if_neg ha] at h
      cases h
      exact ha
theorem tb_ge (W s : Nat) : ∀ (f bl : Nat) (r : List Int32), bl + r.length + 1 ≤ (tx (brk W s f bl r)).length := by
  intro f
  induction f with
  | zero =>
    intro bl r
    show _ ≤ ((rp bl ++ r) ++ [10] ++ []).length
    rw [List.append_nil, List.length_append, List.length_append, rp_len]
    exact Nat.le_refl _
  | succ f ih =>
    intro bl r
    show _ ≤ (tx (if W < bl + r.length then (match lc (okc W bl) r 0 0 false none with
      | none => [rp bl ++ r]
      | some i => (rp bl ++ r.take (i + 1)) :: brk W s f (s + 8) (r.drop (i + 2))) else [rp bl ++ r])).length
    have one : bl + r.length + 1 ≤ (tx [rp bl ++ r]).length := by
      show _ ≤ ((rp bl ++ r) ++ [10] ++ []).length
      rw [List.append_nil, List.length_append, List.length_append, rp_len]
      exact Nat.le_refl _
    split
    · split
      · exact one
      · rename_i i hi
        have := ih (s + 8) (r.drop (i + 2))
        rcases lc_spec _ _ _ _ _ _ hi with z | ⟨z1, z2, z3, z4, z5⟩
        · cases z
        · show _ ≤ (((rp bl ++ r.take (i + 1)) ++ [10]) ++ tx (brk W s f (s + 8) (r.drop (i + 2)))).length
          rw [List.length_append, List.length_append, List.length_append, rp_len, List.length_take]
          rw [List.length_drop] at this
          show _ ≤ bl + min (i + 1) r.length + 1 + _
          omega
    · exact one
theorem tx_ge (Ls : List (List Int32)) : Ls.length ≤ (tx Ls).length ∧ mxl Ls ≤ (tx Ls).length := by
  induction Ls with
  | nil => exact ⟨Nat.le_refl _, Nat.le_refl _⟩
  | cons l r ih =>
    have e : (tx (l :: r)).length = l.length + 1 + (tx r).length := by
      show ((l ++ [10]) ++ tx r).length = _
      rw [List.length_append, List.length_append]
      rfl
    rw [e, List.length_cons]
    show _ ∧ max l.length (mxl r) ≤ _
    omega
theorem tx_app2 (a b : List (List Int32)) : tx (a ++ b) = tx a ++ tx b := List.flatMap_append
theorem bk_len (W : Nat) (l : List Int32) : 8 + l.length + 1 ≤ (tx (bkL W l)).length := by
  have h1 := tb_ge W (8 + lb l) 100 (8 + lb l) (l.drop (lb l))
  have h2 := congrArg List.length (lb_split l)
  rw [List.length_append, rp_len] at h2
  unfold bkL
  omega
theorem jn_cons2 (l l2 : List Int32) (r : List (List Int32)) : jn (l :: l2 :: r) = l ++ (10 :: jn (l2 :: r)) := rfl
section MEM
variable {P S h : AH} {n0 : Nat → Int32} {A0 : Nat → Nat → Int32} {d W t N : Nat} {Q : Option Value → AH → Prop}
theorem ES.a6 (hP : P.length = 135) {X : List Int32} {ln lg ad : Nat} (M : ES P S n0 A0 X ln lg ad h) (ht : t < 20) : okA am_isI h 142 (nI t) ∧ arr h 142 (nI t) = .int (A0 6 t) := by
  obtain ⟨n, A, rfl, m1, m2, m3, m4, m5, m6, m7⟩ := M
  exact ⟨ow_6 hP ht, by rw [aw_6 hP ht, m6 6 (by decide)]⟩
theorem ES.og (hP : P.length = 135) {X : List Int32} {ln lg ad j : Nat} (M : ES P S n0 A0 X ln lg ad h) : okG h 135 8 j ↔ j < 25 := by
  obtain ⟨n, A, rfl, -⟩ := M
  exact ogw hP
theorem ES.f16 (hP : P.length = 135) {X : List Int32} {ln lg ad : Nat} (M : ES P S n0 A0 X ln lg ad h) : fld h 135 16 = .ref 142 := by
  obtain ⟨n, A, rfl, -⟩ := M
  exact fw_16 hP
theorem ES.f6 (hP : P.length = 135) {X : List Int32} {ln lg ad : Nat} (M : ES P S n0 A0 X ln lg ad h) : fld h 135 6 = .int (nI X.length) := by
  obtain ⟨n, A, rfl, -, m2, -⟩ := M
  rw [fw_6 hP, m2]
theorem ES.f3 (hP : P.length = 135) {X : List Int32} {ln lg ad : Nat} (M : ES P S n0 A0 X ln lg ad h) : fld h 135 3 = .int (n0 3) := by
  obtain ⟨n, A, rfl, m1, -⟩ := M
  rw [fw_3 hP, m1 3 (by decide) (by decide) (by decide) (by decide)]
theorem ES.bd (hP : P.length = 135) {X : List Int32} {ln lg ad k : Nat} {Q : Option Value → AH → Prop} (M : ES P S n0 A0 X ln lg ad h) (ht : t < 20) (hk : k < 300) : wp d 128 0 [some (.ref 135), some (.int (nI t)), some (.int (nI k))] [] h Q ↔ Q (some (.int (Byt (A0 4 (t * 75 + k / 4)) (k % 4)))) h := by
  obtain ⟨n, A, rfl, m1, m2, m3, m4, m5, m6, m7⟩ := M
  rw [sp_bodyAt hP ht hk, m6 4 (by decide)]
theorem ob_chars (hP : P.length = 135) {ln lg ad : Nat} {g : Int32} (ht : t < 20) (hN : N ≤ 299) (h6 : A0 6 t = nI N) : ∀ (l : List Int32) (k : Nat) (X : List Int32) (h : AH) (o4 : Option Value), k + l.length ≤ N → (∀ (j : Nat) (c : Int32), l[j]? = some c → Byt (A0 4 (t * 75 + (k + j) / 4)) ((k + j) % 4) = c) → (∀ c ∈ l, asc c ∧ c ≠ 10) → X.length + l.length < 16800 → ES P S n0 A0 X ln lg ad h → (∀ h' o4, ES P S n0 A0 (X ++ l) ln lg ad h' → wp (d + 3) 141 13 [some (.ref 135), some (.int (nI t)), some (.int g), some (.int (nI (k + l.length))), o4] [] h' Q) → wp (d + 3) 141 13 [some (.ref 135), some (.int (nI t)), some (.int g), some (.int (nI k)), o4] [] h Q := by
  intro l
  induction l with
  | nil =>
    intro k X h o4 hk hB hc hb M K
    exact K h o4 (by rw [List.append_nil]; exact M)
  | cons c l ih =>
    intro k X h o4 hk hB hc hb M K
    rw [List.length_cons] at hk hb
    have e1 : nI k < nI N := nI_lt (by omega) (by omega)
    have a6 := M.a6 hP ht
    have hc0 := hc c (List.mem_cons_self ..)
    have eB : Byt (A0 4 (t * 75 + k / 4)) (k % 4) = c := hB 0 c rfl
    simp only [k_141_13, k_141_14, k_141_14N, k_141_18, k_141_15, M.og hP, M.f16 hP, am_cat, am_kill, Value.category, List.map_cons, List.map_nil, List.sum_cons, List.sum_nil, Option.toList_some, Option.toList_none, List.cons_append, List.nil_append, List.length_cons, List.length_nil, List.getD_cons_succ, List.getD_cons_zero, List.set_cons_succ, List.set_cons_zero, Nat.reduceAdd, Nat.reduceLT, Nat.reduceLeDiff, Nat.zero_le, Nat.zero_add, Nat.add_zero]
    rw [k_141_19 a6.1, a6.2, h6]
    simp only [k_141_20, k_141_23, k_141_23N, k_141_24, k_141_25, k_141_26, e1, if_true, M.ov hP, M.bd hP ht (show k < 300 by omega), eB, am_cat, am_kill, Value.category, List.map_cons, List.map_nil, List.sum_cons, List.sum_nil, Option.toList_some, Option.toList_none, List.cons_append, List.nil_append, List.length_cons, List.length_nil, List.getD_cons_succ, List.getD_cons_zero, List.set_cons_succ, List.set_cons_zero, Nat.reduceAdd, Nat.reduceLT, Nat.reduceLeDiff, Nat.zero_le, Nat.zero_add, Nat.add_zero]
    simp only [k_141_29, k_141_31, k_141_33, k_141_35, k_141_38, k_141_38N, k_141_39, k_141_41, hc0.2, if_false, M.ov hP, am_cat, am_kill, Value.category, List.map_cons, List.map_nil, List.sum_cons, List.sum_nil, Option.toList_some, Option.toList_none, List.cons_append, List.nil_append, List.length_cons, List.length_nil, List.getD_cons_succ, List.getD_cons_zero, List.set_cons_succ, List.set_cons_zero, Nat.reduceAdd, Nat.reduceLT, Nat.reduceLeDiff, Nat.zero_le, Nat.zero_add, Nat.add_zero]
    refine es_out hP hc0.1 (by omega) M (fun h1 M1 => ?_)
    simp only [k_141_44, k_141_63, k_141_66, nI_1, am_cat, am_kill, Value.category, List.map_cons, List.map_nil, List.sum_cons, List.sum_nil, Option.toList_some, Option.toList_none, List.cons_append, List.nil_append, List.length_cons, List.length_nil, List.getD_cons_succ, List.getD_cons_zero, List.set_cons_succ, List.set_cons_zero, Nat.reduceAdd, Nat.reduceLT, Nat.reduceLeDiff, Nat.zero_le, Nat.zero_add, Nat.add_zero]
    refine ih (k + 1) _ h1 _ (by omega) (fun j x hj => ?_) (fun x hx => hc x (List.mem_cons_of_mem _ hx)) (by rw [List.length_append]; show X.length + 1 + _ < _; omega) M1 (fun h2 o M2 => ?_)
    · rw [show k + 1 + j = k + (j + 1) by omega]
      exact hB (j + 1) x (by rw [List.getElem?_cons_succ]; exact hj)
    · rw [show k + 1 + l.length = k + (c :: l).length by rw [List.length_cons]; omega]
      exact K h2 o (by rw [List.append_assoc] at M2; exact M2)
theorem ob_lines (hP : P.length = 135) (n00 : n0 0 = nI W) (hW : W < 900) (ht : t < 20) (hN : N ≤ 299) (h6 : A0 6 t = nI N) : ∀ (ls : List (List Int32)) (k : Nat) (Ls : List (List Int32)) (br : Nat) (h : AH) (o4 : Option Value), ls ≠ [] → (∀ l ∈ ls, okL l) → k + (jn ls).length = N → (∀ (j : Nat) (c : Int32), (jn ls)[j]? = some c → Byt (A0 4 (t * 75 + (k + j) / 4)) ((k + j) % 4) = c) → br ≤ Ls.length → (tx Ls).length + (tx (bodyE W ls)).length ≤ 16800 → ES P S n0 A0 (tx Ls ++ rp 8) Ls.length (mxl Ls) br h → (∀ h', ES P S n0 A0 (tx (Ls ++ bodyE W ls)) (Ls ++ bodyE W ls).length (mxl (Ls ++ bodyE W ls)) (br + brkN W ls) h' → Q none h') → wp (d + 4) 141 13 [some (.ref 135), some (.int (nI t)), some (.int (nI (tx Ls).length)), some (.int (nI k)), o4] [] h Q := by
  intro ls
  induction ls with
  | nil => intro k Ls br h o4 hne; exact absurd rfl hne
  | cons l rest ih =>
    intro k Ls br h o4 hne hok hk hB hbr hb M K
    have hl := hok l (List.mem_cons_self ..)
    obtain ⟨q1, ⟨c0, q2⟩, q3⟩ := id hl
    have hc0 := lb_head l c0 q2
    have eb : bodyE W (l :: rest) = bkL W l ++ bodyE W rest := rfl
    rw [eb] at hb K
    rw [tx_app2, List.length_append] at hb
    have bl := bk_len W l
    have hsp := lb_split l
    have hll := congrArg List.length hsp
    rw [List.length_append, rp_len] at hll
    have tg := tx_ge Ls
    have eX : tx Ls ++ rp 8 ++ l = tx Ls ++ (rp (8 + lb l) ++ l.drop (lb l)) := by
      rw [List.append_assoc]
      congr 1
      have : rp (8 + lb l) = rp 8 ++ rp (lb l) := by unfold rp; rw [← List.replicate_append_replicate]
      rw [this, List.append_assoc, ← hsp]
    cases rest with
    | nil =>
      have ej : jn [l] = l := rfl
      rw [ej] at hk hB
      refine ob_chars hP ht hN h6 l k _ h o4 (by omega) hB q3 (by rw [List.length_append, rp_len]; omega) M (fun h1 o M1 => ?_)
      rw [eX] at M1
      have e1 : ¬ nI (k + l.length) < nI N := nI_nlt (by omega) (by omega)
      have a6 := M1.a6 hP ht
      simp only [k_141_13, k_141_14, k_141_14N, k_141_18, k_141_15, M1.og hP, M1.f16 hP, am_cat, am_kill, Value.category, List.map_cons, List.map_nil, List.sum_cons, List.sum_nil, Option.toList_some, Option.toList_none, List.cons_append, List.nil_append, List.length_cons, List.length_nil, List.getD_cons_succ, List.getD_cons_zero, List.set_cons_succ, List.set_cons_zero, Nat.reduceAdd, Nat.reduceLT, Nat.reduceLeDiff, Nat.zero_le, Nat.zero_add, Nat.add_zero]
      rw [k_141_19 a6.1, a6.2, h6]
      simp only [k_141_20, k_141_69, k_141_69N, k_141_70, k_141_71, e1, if_false, M1.ov hP, am_cat, am_kill, Value.category, List.map_cons, List.map_nil, List.sum_cons, List.sum_nil, Option.toList_some, Option.toList_none, List.cons_append, List.nil_append, List.length_cons, List.length_nil, List.getD_cons_succ, List.getD_cons_zero, List.set_cons_succ, List.set_cons_zero, Nat.reduceAdd, Nat.reduceLT, Nat.reduceLeDiff, Nat.zero_le, Nat.zero_add, Nat.add_zero]
      refine es_broken hP n00 (by omega) (by omega) q2 hc0 M1 (by omega) (by unfold bkL at hb; omega) (by omega) (by omega) (by omega) (fun h2 M2 => ?_)
      simp only [k_141_74, am_cat, am_kill, Value.category, List.map_cons, List.map_nil, List.sum_cons, List.sum_nil, Option.toList_some, Option.toList_none, List.cons_append, List.nil_append, List.length_cons, List.length_nil, List.getD_cons_succ, List.getD_cons_zero, List.set_cons_succ, List.set_cons_zero, Nat.reduceAdd, Nat.reduceLT, Nat.reduceLeDiff, Nat.zero_le, Nat.zero_add, Nat.add_zero]
      refine K h2 ?_
      have e2 : bkL W l ++ bodyE W [] = bkL W l := List.append_nil _
      rw [e2]
      exact M2
    | cons l2 rest2 =>
      rw [jn_cons2] at hk hB
      rw [List.length_append, List.length_cons] at hk
      refine ob_chars hP ht hN h6 l k _ h o4 (by omega) (fun j c hj => hB j c (by rw [List.getElem?_append_left (List.getElem?_eq_some_iff.mp hj).1]; exact hj)) q3 (by rw [List.length_append, rp_len]; omega) M (fun h1 o M1 => ?_)
      rw [eX] at M1
      have e1 : nI (k + l.length) < nI N := nI_lt (by omega) (by omega)
      have a6 := M1.a6 hP ht
      have e10 : Byt (A0 4 (t * 75 + (k + l.length) / 4)) ((k + l.length) % 4) = 10 := hB l.length 10 (by rw [List.getElem?_append_right (Nat.le_refl _), Nat.sub_self]; rfl)
      simp only [k_141_13, k_141_14, k_141_14N, k_141_18, k_141_15, M1.og hP, M1.f16 hP, am_cat, am_kill, Value.category, List.map_cons, List.map_nil, List.sum_cons, List.sum_nil, Option.toList_some, Option.toList_none, List.cons_append, List.nil_append, List.length_cons, List.length_nil, List.getD_cons_succ, List.getD_cons_zero, List.set_cons_succ, List.set_cons_zero, Nat.reduceAdd, Nat.reduceLT, Nat.reduceLeDiff, Nat.zero_le, Nat.zero_add, Nat.add_zero]
      rw [k_141_19 a6.1, a6.2, h6]
      simp only [k_141_20, k_141_23, k_141_23N, k_141_24, k_141_25, k_141_26, e1, if_true, M1.ov hP, M1.bd hP ht (show k + l.length < 300 by omega), e10, am_cat, am_kill, Value.category, List.map_cons, List.map_nil, List.sum_cons, List.sum_nil, Option.toList_some, Option.toList_none, List.cons_append, List.nil_append, List.length_cons, List.length_nil, List.getD_cons_succ, List.getD_cons_zero, List.set_cons_succ, List.set_cons_zero, Nat.reduceAdd, Nat.reduceLT, Nat.reduceLeDiff, Nat.zero_le, Nat.zero_add, Nat.add_zero]
      simp only [k_141_29, k_141_31, k_141_33, k_141_35, k_141_47, k_141_47N, k_141_48, k_141_49, if_true, M1.ov hP, am_cat, am_kill, Value.category, List.map_cons, List.map_nil, List.sum_cons, List.sum_nil, Option.toList_some, Option.toList_none, List.cons_append, List.nil_append, List.length_cons, List.length_nil, List.getD_cons_succ, List.getD_cons_zero, List.set_cons_succ, List.set_cons_zero, Nat.reduceAdd, Nat.reduceLT, Nat.reduceLeDiff, Nat.zero_le, Nat.zero_add, Nat.add_zero]
      have tb2 : 8 + l2.length + 1 ≤ (tx (bodyE W (l2 :: rest2))).length := by
        have := bk_len W l2
        show _ ≤ (tx (bkL W l2 ++ bodyE W rest2)).length
        rw [tx_app2, List.length_append]
        omega
      refine es_broken hP n00 (by omega) (by omega) q2 hc0 M1 (by omega) (by unfold bkL at hb; omega) (by omega) (by omega) (by omega) (fun h2 M2 => ?_)
      have M2' : ES P S n0 A0 (tx (Ls ++ bkL W l)) (Ls ++ bkL W l).length (mxl (Ls ++ bkL W l)) (br + ((bkL W l).length - 1)) h2 := M2
      have tl : (tx (Ls ++ bkL W l)).length = (tx Ls).length + (tx (bkL W l)).length := by rw [tx_app2, List.length_append]
      simp only [k_141_52, k_141_52N, k_141_56, k_141_57, k_141_57N, k_141_58, k_141_53, k_141_60, M2'.og hP, M2'.f6 hP, M2'.ov hP, am_cat, am_kill, Value.category, List.map_cons, List.map_nil, List.sum_cons, List.sum_nil, Option.toList_some, Option.toList_none, List.cons_append, List.nil_append, List.length_cons, List.length_nil, List.getD_cons_succ, List.getD_cons_zero, List.set_cons_succ, List.set_cons_zero, Nat.reduceAdd, Nat.reduceLT, Nat.reduceLeDiff, Nat.zero_le, Nat.zero_add, Nat.add_zero]
      refine es_blanks (m := 8) hP (by decide) M2' (by omega) (fun h3 M3 => ?_)
      simp only [k_141_63, k_141_66, nI_1, am_cat, am_kill, Value.category, List.map_cons, List.map_nil, List.sum_cons, List.sum_nil, Option.toList_some, Option.toList_none, List.cons_append, List.nil_append, List.length_cons, List.length_nil, List.getD_cons_succ, List.getD_cons_zero, List.set_cons_succ, List.set_cons_zero, Nat.reduceAdd, Nat.reduceLT, Nat.reduceLeDiff, Nat.zero_le, Nat.zero_add, Nat.add_zero]
      refine ih (k + l.length + 1) (Ls ++ bkL W l) _ h3 _ (by simp) (fun x hx => hok x (List.mem_cons_of_mem _ hx)) (by omega) (fun j c hj => ?_) (by rw [List.length_append]; omega) (by omega) M3 (fun h4 M4 => ?_)
      · rw [show k + l.length + 1 + j = k + (l.length + 1 + j) by omega]
        refine hB _ c ?_
        rw [List.getElem?_append_right (by omega), show l.length + 1 + j - l.length = j + 1 by omega, List.getElem?_cons_succ]
        exact hj
      · refine K h4 ?_
        rw [List.append_assoc] at M4
        rw [show br + brkN W (l :: l2 :: rest2) = br + ((bkL W l).length - 1) + brkN W (l2 :: rest2) by show br + (((bkL W l).length - 1) + brkN W (l2 :: rest2)) = _; omega]
        exact M4
theorem es_body (hP : P.length = 135) {ls : List (List Int32)} {Ls : List (List Int32)} {br : Nat} (n00 : n0 0 = nI W) (hW : W < 900) (ht : t < 20) (hne : ls ≠ []) (hok : ∀ l ∈ ls, okL l) (hN : (jn ls).length ≤ 299) (h6 : A0 6 t = nI (jn ls).length) (hB : ∀ (j : Nat) (c : Int32), (jn ls)[j]? = some c → Byt (A0 4 (t * 75 + j / 4)) (j % 4) = c) (hbr : br ≤ Ls.length) (hb : (tx Ls).length + (tx (bodyE W ls)).length ≤ 16800) (M : ES P S n0 A0 (tx Ls) Ls.length (mxl Ls) br h) (K : ∀ h', ES P S n0 A0 (tx (Ls ++ bodyE W ls)) (Ls ++ bodyE W ls).length (mxl (Ls ++ bodyE W ls)) (br + brkN W ls) h' → Q none h') : wp (d + 4) 141 0 [some (.ref 135), some (.int (nI t)), none, none, none] [] h Q := by
  have tb2 : 9 ≤ (tx (bodyE W ls)).length := by
    cases ls with
    | nil => exact absurd rfl hne
    | cons l rest =>
      have := bk_len W l
      show _ ≤ (tx (bkL W l ++ bodyE W rest)).length
      rw [tx_app2, List.length_append]
      omega
  simp only [k_141_0, k_141_0N, k_141_4, k_141_5, k_141_5N, k_141_6, k_141_1, k_141_8, M.og hP, M.f6 hP, M.ov hP, am_cat, am_kill, Value.category, List.map_cons, List.map_nil, List.sum_cons, List.sum_nil, Option.toList_some, Option.toList_none, List.cons_append, List.nil_append, List.length_cons, List.length_nil, List.getD_cons_succ, List.getD_cons_zero, List.set_cons_succ, List.set_cons_zero, Nat.reduceAdd, Nat.reduceLT, Nat.reduceLeDiff, Nat.zero_le, Nat.zero_add, Nat.add_zero]
  refine es_blanks (m := 8) hP (by decide) M (by omega) (fun h1 M1 => ?_)
  simp only [k_141_11, k_141_12, am_cat, am_kill, Value.category, List.map_cons, List.map_nil, List.sum_cons, List.sum_nil, Option.toList_some, Option.toList_none, List.cons_append, List.nil_append, List.length_cons, List.length_nil, List.getD_cons_succ, List.getD_cons_zero, List.set_cons_succ, List.set_cons_zero, Nat.reduceAdd, Nat.reduceLT, Nat.reduceLeDiff, Nat.zero_le, Nat.zero_add, Nat.add_zero]
  exact ob_lines hP n00 hW ht hN h6 ls 0 Ls br h1 _ hne hok (by omega) (fun j c hj => by rw [Nat.zero_add]; exact hB j c hj) hbr hb M1 K
theorem es_num (hP : P.length = 135) {X : List Int32} {ln lg ad i : Nat} (hi : i < 20) (M : ES P S n0 A0 X ln lg ad h) (hb : X.length + 2 < 16800) (K : ∀ h', ES P S n0 A0 (X ++ num (i : Int)) ln lg ad h' → Q none h') : wp (d + 2) 140 0 [some (.ref 135), some (.int (nI i))] [] h Q := by
  have h10 : ¬ (10 : Int32) = 0 := by decide
  have e1 : ((9 : Int32) < nI i) ↔ 9 < i := nI_ltI (a := 9) (by omega) (by omega)
  have e2 : nI i / 10 = nI (i / 10) := pk_div (d := 10) (by omega) (by decide) (by decide)
  have e3 : nI i - nI i / 10 * 10 = nI (i % 10) := pk_rem (d := 10) (by omega) (by decide) (by decide)
  have e4 : (48 : Int32) + nI (i / 10) = nI (48 + i / 10) := nI_add 48 _
  have e5 : (48 : Int32) + nI (i % 10) = nI (48 + i % 10) := nI_add 48 _
  have key : ∀ i : Nat, i < 20 → num (i : Int) = (if 9 < i then [nI (48 + i / 10)] else []) ++ [nI (48 + i % 10)] := by decide +kernel
  have ha : ∀ m, m < 128 → asc (nI m) := fun m hm => ⟨by rw [nI_toInt (by omega)]; omega, by rw [nI_toInt (by omega)]; omega⟩
  rw [key i hi] at K
  have fin : ∀ (X : List Int32) (h : AH), X.length < 16800 → ES P S n0 A0 X ln lg ad h → (∀ h', ES P S n0 A0 (X ++ [nI (48 + i % 10)]) ln lg ad h' → Q none h') → wp (d + 2) 140 17 [some (.ref 135), some (.int (nI i))] [] h Q := by
    intro X h hb M K
    simp only [k_140_17, k_140_17N, k_140_18, k_140_20, k_140_21, k_140_23 h10, k_140_24, k_140_25, e3, e5, M.ov hP, am_cat, am_kill, Value.category, List.map_cons, List.map_nil, List.sum_cons, List.sum_nil, Option.toList_some, Option.toList_none, List.cons_append, List.nil_append, List.length_cons, List.length_nil, List.getD_cons_succ, List.getD_cons_zero, List.set_cons_succ, List.set_cons_zero, Nat.reduceAdd, Nat.reduceLT, Nat.reduceLeDiff, Nat.zero_le, Nat.zero_add, Nat.add_zero]
    refine es_out hP (ha _ (by omega)) hb M (fun h1 M1 => ?_)
    simp only [k_140_28, am_cat, am_kill, Value.category, List.map_cons, List.map_nil, List.sum_cons, List.sum_nil, Option.toList_some, Option.toList_none, List.cons_append, List.nil_append, List.length_cons, List.length_nil, List.getD_cons_succ, List.getD_cons_zero, List.set_cons_succ, List.set_cons_zero, Nat.reduceAdd, Nat.reduceLT, Nat.reduceLeDiff, Nat.zero_le, Nat.zero_add, Nat.add_zero]
    exact K h1 M1
  simp only [k_140_0, k_140_1, k_140_3, e1, am_cat, am_kill, Value.category, List.map_cons, List.map_nil, List.sum_cons, List.sum_nil, Option.toList_some, Option.toList_none, List.cons_append, List.nil_append, List.length_cons, List.length_nil, List.getD_cons_succ, List.getD_cons_zero, List.set_cons_succ, List.set_cons_zero, Nat.reduceAdd, Nat.reduceLT, Nat.reduceLeDiff, Nat.zero_le, Nat.zero_add, Nat.add_zero]
  by_cases c : 9 < i
  · rw [if_pos c] at K
    simp only [c, if_true, k_140_6, k_140_6N, k_140_7, k_140_9, k_140_10, k_140_12 h10, k_140_13, k_140_14, e2, e4, M.ov hP, am_cat, am_kill, Value.category, List.map_cons, List.map_nil, List.sum_cons, List.sum_nil, Option.toList_some, Option.toList_none, List.cons_append, List.nil_append, List.length_cons, List.length_nil, List.getD_cons_succ, List.getD_cons_zero, List.set_cons_succ, List.set_cons_zero, Nat.reduceAdd, Nat.reduceLT, Nat.reduceLeDiff, Nat.zero_le, Nat.zero_add, Nat.add_zero]
    refine es_out hP (ha _ (by omega)) (by omega) M (fun h1 M1 => ?_)
    refine fin _ h1 (by rw [List.length_append]; show X.length + 1 < _; omega) M1 (fun h2 M2 => ?_)
    exact K h2 (by rw [List.append_assoc] at M2; exact M2)
  · rw [if_neg c, List.nil_append] at K
    simp only [c, if_false]
    exact fin X h (by omega) M K
end MEM
