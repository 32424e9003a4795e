/-! THE REFERENCE BREAKS A LINE, whole -/
theorem brk_ne (W ind f bl : Nat) (r : List Int32) : 1 ≤ (brk W ind f bl r).length := by
  cases f with
  | zero => exact Nat.le_refl _
  | succ f =>
    show 1 ≤ (if W < bl + r.length then (match lc (okc W bl) r 0 0 false none with
      | none => [rp bl ++ r]
      | some i => (rp bl ++ r.take (i + 1)) :: brk W ind f (ind + 8) (r.drop (i + 2))) else [rp bl ++ r] : List (List Int32)).length
    split
    · split
      · exact Nat.le_refl _
      · rw [List.length_cons]; omega
    · exact Nat.le_refl _
theorem rp_len (k : Nat) : (rp k).length = k := List.length_replicate
theorem br_list {T0 r X X' : List Int32} {bl i m c : Nat} {f f' : Nat → Int32} (hi : i + 2 ≤ r.length) (eX : X = T0 ++ (rp bl ++ r)) (eX' : X' = (T0 ++ ((rp bl ++ r.take (i + 1)) ++ [10])) ++ (rp m ++ r.drop (i + 2))) (ec : c = T0.length + bl + i) (hf : ∀ (j : Nat) (x : Int32), X[j]? = some x → f j = x) (hf' : ∀ q, f' q = if q = c + 1 then 10 else if c + 2 ≤ q ∧ q < c + 2 + m then 32 else if c + 2 + m ≤ q ∧ q < c + 2 + m + (r.length - i - 2) then f (q - m) else f q) : ∀ (j : Nat) (x : Int32), X'[j]? = some x → f' j = x := by
  intro j x hj
  have hp : (T0 ++ (rp bl ++ r.take (i + 1))).length = c + 1 := by
    rw [List.length_append, List.length_append, rp_len, List.length_take]
    omega
  have e1 : X = (T0 ++ (rp bl ++ r.take (i + 1))) ++ r.drop (i + 1) := by
    rw [eX, List.append_assoc, List.append_assoc, List.take_append_drop]
  have e2 : X' = (T0 ++ (rp bl ++ r.take (i + 1))) ++ ([10] ++ (rp m ++ r.drop (i + 2))) := by
    rw [eX']
    simp only [List.append_assoc]
  rw [hf' j]
  rw [e2] at hj
  rw [e1] at hf
  generalize T0 ++ (rp bl ++ r.take (i + 1)) = pf at hp hj hf
  by_cases c1 : j < c + 1
  · rw [if_neg (by omega), if_neg (by omega), if_neg (by omega)]
    rw [List.getElem?_append_left (by omega)] at hj
    exact hf j x (by rw [List.getElem?_append_left (by omega)]; exact hj)
  rw [List.getElem?_append_right (by omega), hp] at hj
  by_cases c2 : j = c + 1
  · rw [if_pos c2]
    rw [c2, Nat.sub_self] at hj
    exact Option.some.inj hj
  rw [if_neg c2]
  rw [List.getElem?_append_right (by show 1 ≤ _; omega)] at hj
  rw [show j - (c + 1) - ([10] : List Int32).length = j - (c + 2) by show j - (c + 1) - 1 = _; omega] at hj
  by_cases c3 : c + 2 ≤ j ∧ j < c + 2 + m
  · rw [if_pos c3]
    rw [List.getElem?_append_left (by rw [rp_len]; omega)] at hj
    unfold rp at hj
    rw [List.getElem?_replicate, if_pos (by omega)] at hj
    exact Option.some.inj hj
  · rw [if_neg c3]
    rw [List.getElem?_append_right (by rw [rp_len]; omega), rp_len, List.getElem?_drop] at hj
    have hjl := (List.getElem?_eq_some_iff.mp hj).1
    rw [if_pos (by omega)]
    refine hf (j - m) x ?_
    rw [List.getElem?_append_right (by omega), hp, List.getElem?_drop, show i + 1 + (j - m - (c + 1)) = i + 2 + (j - (c + 2) - m) by omega]
    exact hj
section MB2
variable {P S h : AH} {n0 : Nat → Int32} {A0 : Nat → Nat → Int32} {d W s : Nat} {Q : Option Value → AH → Prop}
theorem eb_loop (hP : P.length = 135) {g : Int32} (n00 : n0 0 = nI W) (hW : W < 1000) (hs8 : s + 8 < 1000) : ∀ (f gd : Nat) (Ls : List (List Int32)) (br bl : Nat) (r : List Int32) (h : AH) (o6 o7 o8 o9 : Option Value), gd + f = 100 → bl < 1000 → ES P S n0 A0 (tx Ls ++ (rp bl ++ r)) Ls.length (mxl Ls) br h → (tx Ls).length + (tx (brk W s f bl r)).length ≤ 16800 → mxl Ls < 17000 → Ls.length + f < 18000 → br + f < 18000 → (∀ h', ES P S n0 A0 (tx (Ls ++ brk W s f bl r)) (Ls ++ brk W s f bl r).length (mxl (Ls ++ brk W s f bl r)) (br + ((brk W s f bl r).length - 1)) h' → Q none h') → wp (d + 3) 142 30 [some (.ref 135), some (.int g), some (.int (nI bl)), some (.int (nI s)), some (.int (nI (tx Ls).length)), some (.int (nI gd)), o6, o7, o8, o9] [] h Q := by
  have hs : sN ≤ 135 := by decide
  intro f
  induction f with
  | zero =>
    intro gd Ls br bl r h o6 o7 o8 o9 hg hbl M hb h1 h2 h3 K
    obtain rfl : gd = 100 := by omega
    have e1 : ¬ nI 100 < 100 := by decide
    have eb : brk W s 0 bl r = [rp bl ++ r] := rfl
    rw [eb] at hb K
    have hb' : (tx Ls).length + (rp bl ++ r).length < 16800 := by
      have : (tx [rp bl ++ r]).length = (rp bl ++ r).length + 1 := by
        show ((rp bl ++ r) ++ [10] ++ []).length = _
        rw [List.append_nil, List.length_append]
        rfl
      omega
    simp only [k_142_30, k_142_32, k_142_34, e1, if_false, k_142_238, k_142_238N, k_142_239, k_142_241, M.ov hP, am_cat, am_kill, Value.category, List.map_cons, List.map_nil, List.sum_cons, List.sum_nil, Option.toList_some, Option.toList_none, List.cons_append, List.nil_append, List.length_cons, List.length_nil, List.getD_cons_succ, List.getD_cons_zero, List.set_cons_succ, List.set_cons_zero, Nat.reduceAdd, Nat.reduceLT, Nat.reduceLeDiff, Nat.zero_le, Nat.zero_add, Nat.add_zero]
    refine es_end hP (by omega) (by omega) M hb' (fun h' M' => ?_)
    simp only [k_142_244, am_cat, am_kill, Value.category, List.map_cons, List.map_nil, List.sum_cons, List.sum_nil, Option.toList_some, Option.toList_none, List.cons_append, List.nil_append, List.length_cons, List.length_nil, List.getD_cons_succ, List.getD_cons_zero, List.set_cons_succ, List.set_cons_zero, Nat.reduceAdd, Nat.reduceLT, Nat.reduceLeDiff, Nat.zero_le, Nat.zero_add, Nat.add_zero]
    exact K h' M'
  | succ f ih =>
    intro gd Ls br bl r h o6 o7 o8 o9 hg hbl M hb h1 h2 h3 K
    have e1 : nI gd < 100 := nI_lt (b := 100) (by omega) (by omega)
    have eb : brk W s (f + 1) bl r = if W < bl + r.length then (match lc (okc W bl) r 0 0 false none with
      | none => [rp bl ++ r]
      | some i => (rp bl ++ r.take (i + 1)) :: brk W s f (s + 8) (r.drop (i + 2))) else [rp bl ++ r] := rfl
    have hXl : (tx Ls ++ (rp bl ++ r)).length = (tx Ls).length + (bl + r.length) := by rw [List.length_append, List.length_append, rp_len]
    have stop : brk W s (f + 1) bl r = [rp bl ++ r] → ∀ (o5 o6 o7 o8 o9 : Option Value), wp (d + 3) 142 238 [some (.ref 135), some (.int g), some (.int (nI bl)), some (.int (nI s)), some (.int (nI (tx Ls).length)), o5, o6, o7, o8, o9] [] h Q := by
      intro e o5 o6 o7 o8 o9
      rw [e] at hb K
      have hb' : (tx Ls).length + (rp bl ++ r).length < 16800 := by
        have : (tx [rp bl ++ r]).length = (rp bl ++ r).length + 1 := by
          show ((rp bl ++ r) ++ [10] ++ []).length = _
          rw [List.append_nil, List.length_append]
          rfl
        omega
      simp only [k_142_238, k_142_238N, k_142_239, k_142_241, M.ov hP, am_cat, am_kill, Value.category, List.map_cons, List.map_nil, List.sum_cons, List.sum_nil, Option.toList_some, Option.toList_none, List.cons_append, List.nil_append, List.length_cons, List.length_nil, List.getD_cons_succ, List.getD_cons_zero, List.set_cons_succ, List.set_cons_zero, Nat.reduceAdd, Nat.reduceLT, Nat.reduceLeDiff, Nat.zero_le, Nat.zero_add, Nat.add_zero]
      refine es_end hP (by omega) (by omega) M hb' (fun h' M' => ?_)
      simp only [k_142_244, am_cat, am_kill, Value.category, List.map_cons, List.map_nil, List.sum_cons, List.sum_nil, Option.toList_some, Option.toList_none, List.cons_append, List.nil_append, List.length_cons, List.length_nil, List.getD_cons_succ, List.getD_cons_zero, List.set_cons_succ, List.set_cons_zero, Nat.reduceAdd, Nat.reduceLT, Nat.reduceLeDiff, Nat.zero_le, Nat.zero_add, Nat.add_zero]
      exact K h' M'
    obtain ⟨n, A, hh, m1, m2, m3, m4, m5, m6, m7, m8⟩ := id M
    have hX : (tx Ls ++ (rp bl ++ r)).length < 16800 := by
      have key : ∀ (f bl : Nat) (r : List Int32), bl + r.length + 1 ≤ (tx (brk W s f bl r)).length := by
        intro f
        induction f with
        | zero =>
          intro bl r
          show _ ≤ ((rp bl ++ r) ++ [10] ++ []).length
          rw [List.append_nil, List.length_append, List.length_append, rp_len]
          exact Nat.le_refl _
        | succ f ih =>
          intro bl r
          show _ ≤ (tx (if W < bl + r.length then (match lc (okc W bl) r 0 0 false none with
            | none => [rp bl ++ r]
            | some i => (rp bl ++ r.take (i + 1)) :: brk W s f (s + 8) (r.drop (i + 2))) else [rp bl ++ r])).length
          have one : bl + r.length + 1 ≤ (tx [rp bl ++ r]).length := by
            show _ ≤ ((rp bl ++ r) ++ [10] ++ []).length
            rw [List.append_nil, List.length_append, List.length_append, rp_len]
            exact Nat.le_refl _
          split
          · split
            · exact one
            · rename_i i hi
              have := ih (s + 8) (r.drop (i + 2))
              rcases lc_spec _ _ _ _ _ _ hi with z | ⟨z1, z2, z3, z4, z5⟩
              · cases z
              · show _ ≤ (((rp bl ++ r.take (i + 1)) ++ [10]) ++ tx (brk W s f (s + 8) (r.drop (i + 2)))).length
                rw [List.length_append, List.length_append, List.length_append, rp_len, List.length_take]
                rw [List.length_drop] at this
                show _ ≤ bl + min (i + 1) r.length + 1 + _
                omega
          · exact one
      have := key (f + 1) bl r
      rw [hXl]
      omega
    rw [hXl] at m2 hX
    have n0' : n 0 = nI W := by rw [m1 0 (by decide) (by decide) (by decide) (by decide)]; exact n00
    have e2 : nI ((tx Ls).length + (bl + r.length)) - nI (tx Ls).length = nI (bl + r.length) := by rw [nI_sub2 (by omega)]; congr 1; omega
    have e3 : (nI W < nI (bl + r.length)) ↔ W < bl + r.length := nI_ltI (by omega) (by omega)
    subst hh
    simp only [k_142_30, k_142_32, k_142_34, k_142_37, k_142_37N, k_142_41, k_142_43, k_142_44, k_142_44N, k_142_48, k_142_38, k_142_45, e1, if_true, ogw hP, fw_6 hP, fw_0 hP, m2, n0', e2, e3, am_cat, am_kill, Value.category, List.map_cons, List.map_nil, List.sum_cons, List.sum_nil, Option.toList_some, Option.toList_none, List.cons_append, List.nil_append, List.length_cons, List.length_nil, List.getD_cons_succ, List.getD_cons_zero, List.set_cons_succ, List.set_cons_zero, Nat.reduceAdd, Nat.reduceLT, Nat.reduceLeDiff, Nat.zero_le, Nat.zero_add, Nat.add_zero]
    by_cases cW : W < bl + r.length
    · rw [if_pos cW]
      have cm := fun Q => sp_comma (P := P) (S := S) (d := d + 1) (Q := Q) hP n0' (by rw [hXl]; exact m2) (by rw [hXl]; exact hX) hW hbl m7 rfl
      simp only [k_142_51, k_142_51N, k_142_52, k_142_54, k_142_55, ovw hP, cm, am_cat, am_kill, Value.category, List.map_cons, List.map_nil, List.sum_cons, List.sum_nil, Option.toList_some, Option.toList_none, List.cons_append, List.nil_append, List.length_cons, List.length_nil, List.getD_cons_succ, List.getD_cons_zero, List.set_cons_succ, List.set_cons_zero, Nat.reduceAdd, Nat.reduceLT, Nat.reduceLeDiff, Nat.zero_le, Nat.zero_add, Nat.add_zero]
      cases hlc : lc (okc W bl) r 0 0 false none with
      | none =>
        have e5 : obI ((tx Ls).length + bl) none < 0 := by show (-1 : Int32) < 0; decide
        simp only [k_142_58, k_142_60, k_142_62, k_142_65, e5, if_true, am_cat, am_kill, Value.category, List.map_cons, List.map_nil, List.sum_cons, List.sum_nil, Option.toList_some, Option.toList_none, List.cons_append, List.nil_append, List.length_cons, List.length_nil, List.getD_cons_succ, List.getD_cons_zero, List.set_cons_succ, List.set_cons_zero, Nat.reduceAdd, Nat.reduceLT, Nat.reduceLeDiff, Nat.zero_le, Nat.zero_add, Nat.add_zero]
        exact stop (by rw [eb, if_pos cW, hlc]) _ _ _ _ _
      | some i =>
        have eb2 : brk W s (f + 1) bl r = (rp bl ++ r.take (i + 1)) :: brk W s f (s + 8) (r.drop (i + 2)) := by rw [eb, if_pos cW, hlc]
        rw [eb2] at hb K
        obtain ⟨-, z2, -, z4, z5⟩ : 0 ≤ i ∧ i + 2 ≤ 0 + r.length ∧ okc W bl i = true ∧ r[i - 0]? = some 44 ∧ r[i - 0 + 1]? = some 32 := by
          rcases lc_spec _ _ _ _ _ _ hlc with z | z
          · cases z
          · exact z
        have hi2 : i + 2 ≤ r.length := by omega
        have e5 : obI ((tx Ls).length + bl) (some i) = nI ((tx Ls).length + bl + i) := rfl
        generalize hc : (tx Ls).length + bl + i = c at e5
        have e6 : ¬ nI c < 0 := nI_pos (by omega)
        have e7 : nI ((tx Ls).length + (bl + r.length)) - nI c = nI (r.length - i) := by rw [nI_sub2 (by omega)]; congr 1; omega
        have e8 : nI (r.length - i) - 2 = nI (r.length - i - 2) := by rw [show (2 : Int32) = nI 2 from rfl, nI_sub2 (by omega)]
        have e9 : nI s + 8 = nI (s + 8) := nI_add s 8
        have nl : (tx (brk W s f (s + 8) (r.drop (i + 2)))).length + (bl + i + 2) = (tx ((rp bl ++ r.take (i + 1)) :: brk W s f (s + 8) (r.drop (i + 2)))).length := by
          show _ = (((rp bl ++ r.take (i + 1)) ++ [10]) ++ tx (brk W s f (s + 8) (r.drop (i + 2)))).length
          rw [List.length_append, List.length_append, List.length_append, rp_len, List.length_take]
          show _ = bl + min (i + 1) r.length + 1 + _
          omega
        have key2 : s + 8 + (r.length - i - 2) + 1 ≤ (tx (brk W s f (s + 8) (r.drop (i + 2)))).length := by
          have key : ∀ (f bl : Nat) (r : List Int32), bl + r.length + 1 ≤ (tx (brk W s f bl r)).length := by
            intro f
            induction f with
            | zero =>
              intro bl r
              show _ ≤ ((rp bl ++ r) ++ [10] ++ []).length
              rw [List.append_nil, List.length_append, List.length_append, rp_len]
              exact Nat.le_refl _
            | succ f ih =>
              intro bl r
              show _ ≤ (tx (if W < bl + r.length then (match lc (okc W bl) r 0 0 false none with
                | none => [rp bl ++ r]
                | some i => (rp bl ++ r.take (i + 1)) :: brk W s f (s + 8) (r.drop (i + 2))) else [rp bl ++ r])).length
              have one : bl + r.length + 1 ≤ (tx [rp bl ++ r]).length := by
                show _ ≤ ((rp bl ++ r) ++ [10] ++ []).length
                rw [List.append_nil, List.length_append, List.length_append, rp_len]
                exact Nat.le_refl _
              split
              · split
                · exact one
                · rename_i i hi
                  have := ih (s + 8) (r.drop (i + 2))
                  rcases lc_spec _ _ _ _ _ _ hi with z | ⟨z1, z2, z3, z4, z5⟩
                  · cases z
                  · show _ ≤ (((rp bl ++ r.take (i + 1)) ++ [10]) ++ tx (brk W s f (s + 8) (r.drop (i + 2)))).length
                    rw [List.length_append, List.length_append, List.length_append, rp_len, List.length_take]
                    rw [List.length_drop] at this
                    show _ ≤ bl + min (i + 1) r.length + 1 + _
                    omega
              · exact one
          have := key f (s + 8) (r.drop (i + 2))
          rw [List.length_drop] at this
          omega
        have hasc : ∀ q, q < c + 2 + (r.length - i - 2) → asc (Tx A q) := by
          intro q hq
          have hql : q < (tx Ls ++ (rp bl ++ r)).length := by rw [hXl]; omega
          rw [m7 q _ (List.getElem?_eq_getElem hql)]
          exact m8 _ (List.getElem_mem hql)
        simp only [k_142_58, k_142_60, k_142_62, k_142_68, k_142_68N, k_142_72, k_142_74, k_142_75, k_142_76, k_142_77, k_142_79, k_142_80, k_142_82, k_142_83, k_142_85, k_142_87, k_142_88, k_142_89, k_142_69, e5, e6, if_false, ogw hP, fw_6 hP, m2, e7, e8, e9, am_cat, am_kill, Value.category, List.map_cons, List.map_nil, List.sum_cons, List.sum_nil, Option.toList_some, Option.toList_none, List.cons_append, List.nil_append, List.length_cons, List.length_nil, List.getD_cons_succ, List.getD_cons_zero, List.set_cons_succ, List.set_cons_zero, Nat.reduceAdd, Nat.reduceLT, Nat.reduceLeDiff, Nat.zero_le, Nat.zero_add, Nat.add_zero]
        refine br_shift (A := A) hP (by omega) hasc (r.length - i - 2) _ A rfl (Nat.le_refl _) (fun _ _ => rfl) (fun q => by rw [if_neg (by omega)]) (fun B J' b1 b2 => ?_)
        simp only [k_142_127, k_142_128, am_cat, am_kill, Value.category, List.map_cons, List.map_nil, List.sum_cons, List.sum_nil, Option.toList_some, Option.toList_none, List.cons_append, List.nil_append, List.length_cons, List.length_nil, List.getD_cons_succ, List.getD_cons_zero, List.set_cons_succ, List.set_cons_zero, Nat.reduceAdd, Nat.reduceLT, Nat.reduceLeDiff, Nat.zero_le, Nat.zero_add, Nat.add_zero]
        rw [show some (Value.int (0 : Int32)) = some (.int (nI 0)) from rfl]
        refine br_blank (A := B) hP (by omega) (s + 8) 0 B (by omega) (fun _ _ => rfl) (fun q => by rw [if_neg (by omega)]) (fun B2 J2 c1 c2 => ?_)
        have f1 : nI c + 1 = nI (c + 1) := nI_1 c
        have f2 : nI c + 2 = nI (c + 2) := nI_add c 2
        have f3 : nI (c + 1) - nI (tx Ls).length = nI (bl + i + 1) := by rw [nI_sub2 (by omega)]; congr 1; omega
        have f4 : (nI (mxl Ls) < nI (bl + i + 1)) ↔ mxl Ls < bl + i + 1 := nI_ltI (by omega) (by omega)
        simp only [k_142_156, k_142_156N, k_142_157, k_142_159, k_142_160, k_142_161, k_142_163, f1, ovw hP, sp_setText hP (show c + 1 < 16800 by omega), am_cat, am_kill, Value.category, List.map_cons, List.map_nil, List.sum_cons, List.sum_nil, Option.toList_some, Option.toList_none, List.cons_append, List.nil_append, List.length_cons, List.length_nil, List.getD_cons_succ, List.getD_cons_zero, List.set_cons_succ, List.set_cons_zero, Nat.reduceAdd, Nat.reduceLT, Nat.reduceLeDiff, Nat.zero_le, Nat.zero_add, Nat.add_zero]
        simp only [k_142_166, k_142_168, k_142_169, k_142_170, k_142_172, k_142_173, k_142_173N, k_142_177, k_142_174, f1, f3, f4, ogw hP, fw_8 hP, m4, am_cat, am_kill, Value.category, List.map_cons, List.map_nil, List.sum_cons, List.sum_nil, Option.toList_some, Option.toList_none, List.cons_append, List.nil_append, List.length_cons, List.length_nil, List.getD_cons_succ, List.getD_cons_zero, List.set_cons_succ, List.set_cons_zero, Nat.reduceAdd, Nat.reduceLT, Nat.reduceLeDiff, Nat.zero_le, Nat.zero_add, Nat.add_zero]
        have eY : (rp bl ++ r.take (i + 1)).length = bl + i + 1 := by rw [List.length_append, rp_len, List.length_take]; omega
        have eX' : tx (Ls ++ [rp bl ++ r.take (i + 1)]) ++ (rp (s + 8) ++ r.drop (i + 2)) = (tx Ls ++ ((rp bl ++ r.take (i + 1)) ++ [10])) ++ (rp (s + 8) ++ r.drop (i + 2)) := by rw [tx_app]
        have hT' : ∀ (j : Nat) (x : Int32), (tx (Ls ++ [rp bl ++ r.take (i + 1)]) ++ (rp (s + 8) ++ r.drop (i + 2)))[j]? = some x → Tx (uA B2 5 ((c + 1) / 4) (Bset (B2 5 ((c + 1) / 4)) ((c + 1) % 4) 10)) j = x := by
          refine br_list (f := Tx A) hi2 rfl eX' hc.symm m7 (fun q => ?_)
          rw [Tx_set ⟨by decide, by decide⟩, c2 q, b2 q]
        have hA' : ∀ x ∈ tx (Ls ++ [rp bl ++ r.take (i + 1)]) ++ (rp (s + 8) ++ r.drop (i + 2)), asc x := by
          intro x hx
          rw [eX'] at hx
          simp only [List.mem_append] at hx
          rcases hx with (hx | (hx | hx) | hx) | hx | hx
          · exact m8 x (by simp [hx])
          · exact m8 x (by simp [hx])
          · exact m8 x (by simp [List.mem_of_mem_take hx])
          · rw [List.mem_singleton.mp hx]; exact ⟨by decide, by decide⟩
          · rw [List.eq_of_mem_replicate hx]; exact ⟨by decide, by decide⟩
          · exact m8 x (by simp [List.mem_of_mem_drop hx])
        have fin : ∀ (v : Nat → Int32), (∀ j, j ≠ 6 → j ≠ 7 → j ≠ 8 → j ≠ 9 → v j = n0 j) → v 7 = nI Ls.length → v 8 = nI (max (mxl Ls) (bl + i + 1)) → v 9 = nI br → wp (d + 3) 142 191 [some (.ref 135), some (.int g), some (.int (nI bl)), some (.int (nI s)), some (.int (nI (tx Ls).length)), some (.int (nI gd)), some (.int (nI c)), some (.int (nI (r.length - i - 2))), some (.int (nI (s + 8))), some (.int J2)] [] (wr P S v (uA B2 5 ((c + 1) / 4) (Bset (B2 5 ((c + 1) / 4)) ((c + 1) % 4) 10))) Q := by
          intro v v1 v7 v8 v9
          have g9 : upd v 7 (nI (Ls.length + 1)) 9 = nI br := by rw [pk_un (by decide)]; exact v9
          simp only [k_142_191, k_142_191N, k_142_192, k_142_192i, k_142_196, k_142_197, k_142_201, k_142_201N, k_142_202, k_142_202i, k_142_206, k_142_207, k_142_211, k_142_213, k_142_214, k_142_215, k_142_217, k_142_217N, k_142_218, k_142_220, k_142_222, k_142_223, k_142_225, k_142_229, k_142_231, k_142_232, k_142_235, k_142_193, k_142_198, k_142_203, k_142_208, k_142_226, ogw hP, fw_7 hP, fw_9 hP, hw_7 hP, hw_9 hP, hw_6 hP, hs, v7, g9, f2, nI_add, nI_1, am_cat, am_kill, Value.category, List.map_cons, List.map_nil, List.sum_cons, List.sum_nil, Option.toList_some, Option.toList_none, List.cons_append, List.nil_append, List.length_cons, List.length_nil, List.getD_cons_succ, List.getD_cons_zero, List.set_cons_succ, List.set_cons_zero, Nat.reduceAdd, Nat.reduceLT, Nat.reduceLeDiff, Nat.zero_le, Nat.zero_add, Nat.add_zero]
          have et : (tx (Ls ++ [rp bl ++ r.take (i + 1)])).length = c + 2 := by
            rw [tx_app, List.length_append, List.length_append, eY]
            show _ + (bl + i + 1 + 1) = _
            omega
          have hL1 : (Ls ++ [rp bl ++ r.take (i + 1)]).length = Ls.length + 1 := by rw [List.length_append]; rfl
          have := ih (gd + 1) (Ls ++ [rp bl ++ r.take (i + 1)]) (br + 1) (s + 8) (r.drop (i + 2)) (wr P S (upd (upd (upd v 7 (nI (Ls.length + 1))) 9 (nI (br + 1))) 6 (nI (c + 2 + (s + 8) + (r.length - i - 2)))) (uA B2 5 ((c + 1) / 4) (Bset (B2 5 ((c + 1) / 4)) ((c + 1) % 4) 10))) (some (.int (nI c))) (some (.int (nI (r.length - i - 2)))) (some (.int (nI (s + 8)))) (some (.int J2)) (by omega) hs8 ⟨_, _, rfl, fun j j1 j2 j3 j4 => by rw [pk_un j1, pk_un j4, pk_un j2]; exact v1 j j1 j2 j3 j4, ?_, ?_, ?_, ?_, ?_, hT', hA'⟩ ?_ ?_ ?_ ?_ ?_
          · rw [et] at this
            exact this
          · rw [pk_us, List.length_append, List.length_append, rp_len, List.length_drop, et]
            congr 1
            omega
          · rw [pk_un (by decide), pk_un (by decide), pk_us, hL1]
          · rw [pk_un (by decide), pk_un (by decide), pk_un (by decide), v8, mxl_app, eY]
          · rw [pk_un (by decide), pk_us]
          · intro j hj
            rw [uA_r hj, c1 j hj, b1 j hj]
            exact m6 j hj
          · rw [et]
            omega
          · rw [mxl_app, eY]
            omega
          · rw [hL1]
            omega
          · omega
          · intro h' M'
            have hne := brk_ne W s f (s + 8) (r.drop (i + 2))
            refine K h' ?_
            rw [List.append_assoc, List.singleton_append] at M'
            rw [List.length_cons, show br + ((brk W s f (s + 8) (r.drop (i + 2))).length + 1 - 1) = br + 1 + ((brk W s f (s + 8) (r.drop (i + 2))).length - 1) by omega]
            exact M'
        by_cases c5 : mxl Ls < bl + i + 1
        · simp only [if_pos c5, k_142_180, k_142_180N, k_142_181, k_142_183, k_142_184, k_142_185, k_142_187, k_142_188, ogw hP, hw_8 hP, hs, f1, f3, am_cat, am_kill, Value.category, List.map_cons, List.map_nil, List.sum_cons, List.sum_nil, Option.toList_some, Option.toList_none, List.cons_append, List.nil_append, List.length_cons, List.length_nil, List.getD_cons_succ, List.getD_cons_zero, List.set_cons_succ, List.set_cons_zero, Nat.reduceAdd, Nat.reduceLT, Nat.reduceLeDiff, Nat.zero_le, Nat.zero_add, Nat.add_zero]
          exact fin _ (fun j j1 j2 j3 j4 => by rw [pk_un j3]; exact m1 j j1 j2 j3 j4) (by rw [pk_un (by decide)]; exact m3) (by rw [pk_us]; congr 1; omega) (by rw [pk_un (by decide)]; exact m5)
        · simp only [if_neg c5]
          exact fin n m1 m3 (by rw [m4]; congr 1; omega) m5
    · rw [if_neg cW]
      exact stop (by rw [eb, if_neg cW]) _ _ _ _ _
end MB2
section MB3
variable {P S h : AH} {n0 : Nat → Int32} {A0 : Nat → Nat → Int32} {d W s : Nat} {Q : Option Value → AH → Prop}
theorem eb_first (hP : P.length = 135) {r X : List Int32} {pre : List Int32} {n : Nat → Int32} {A : Nat → Nat → Int32} {o2 o4 : Option Value} {c0 : Int32} (eX : X = pre ++ (rp s ++ r)) (hX : X.length < 16800) (hT : ∀ (j : Nat) (c : Int32), X[j]? = some c → Tx A j = c) (hr : r.head? = some c0) (hc : c0 ≠ 32) : ∀ (j i : Nat), i + j = s → (wp (d + 1) 142 7 [some (.ref 135), some (.int (nI pre.length)), some (.int 0), some (.int (nI i)), o4, none, none, none, none, none] [] (wr P S n A) Q ↔ wp (d + 1) 142 25 [some (.ref 135), some (.int (nI pre.length)), some (.int 0), some (.int (nI s)), o4, none, none, none, none, none] [] (wr P S n A) Q) := by
  have hl : X.length = pre.length + (s + r.length) := by rw [eX, List.length_append, List.length_append, rp_len]
  have hr0 : 0 < r.length := by
    cases r with
    | nil => cases hr
    | cons a b => simp
  intro j
  induction j with
  | zero =>
    intro i hi
    obtain rfl : i = s := by omega
    have eT : Byt (A 5 ((pre.length + i) / 4)) ((pre.length + i) % 4) = c0 := by
      refine hT (pre.length + i) c0 ?_
      rw [eX, List.getElem?_append_right (by omega), List.getElem?_append_right (by rw [rp_len]; omega), rp_len, show pre.length + i - pre.length - i = 0 by omega, ← List.head?_eq_getElem?]
      exact hr
    simp only [k_142_7, k_142_7N, k_142_8, k_142_9, k_142_10, k_142_11, nI_add, ovw hP, sp_textAt hP (show pre.length + i < 16800 by omega), eT, am_cat, am_kill, Value.category, List.map_cons, List.map_nil, List.sum_cons, List.sum_nil, Option.toList_some, Option.toList_none, List.cons_append, List.nil_append, List.length_cons, List.length_nil, List.getD_cons_succ, List.getD_cons_zero, List.set_cons_succ, List.set_cons_zero, Nat.reduceAdd, Nat.reduceLT, Nat.reduceLeDiff, Nat.zero_le, Nat.zero_add, Nat.add_zero]
    simp only [k_142_14, k_142_16, hc, if_false, am_cat, am_kill, Value.category, List.map_cons, List.map_nil, List.sum_cons, List.sum_nil, Option.toList_some, Option.toList_none, List.cons_append, List.nil_append, List.length_cons, List.length_nil, List.getD_cons_succ, List.getD_cons_zero, List.set_cons_succ, List.set_cons_zero, Nat.reduceAdd, Nat.reduceLT, Nat.reduceLeDiff, Nat.zero_le, Nat.zero_add, Nat.add_zero]
  | succ j ih =>
    intro i hi
    have eT : Byt (A 5 ((pre.length + i) / 4)) ((pre.length + i) % 4) = 32 := by
      refine hT (pre.length + i) 32 ?_
      rw [eX, List.getElem?_append_right (by omega), List.getElem?_append_left (by rw [rp_len]; omega)]
      unfold rp
      rw [List.getElem?_replicate, if_pos (by omega)]
    simp only [k_142_7, k_142_7N, k_142_8, k_142_9, k_142_10, k_142_11, nI_add, ovw hP, sp_textAt hP (show pre.length + i < 16800 by omega), eT, am_cat, am_kill, Value.category, List.map_cons, List.map_nil, List.sum_cons, List.sum_nil, Option.toList_some, Option.toList_none, List.cons_append, List.nil_append, List.length_cons, List.length_nil, List.getD_cons_succ, List.getD_cons_zero, List.set_cons_succ, List.set_cons_zero, Nat.reduceAdd, Nat.reduceLT, Nat.reduceLeDiff, Nat.zero_le, Nat.zero_add, Nat.add_zero]
    simp only [k_142_14, k_142_16, k_142_19, k_142_22, if_true, nI_1, am_cat, am_kill, Value.category, List.map_cons, List.map_nil, List.sum_cons, List.sum_nil, Option.toList_some, Option.toList_none, List.cons_append, List.nil_append, List.length_cons, List.length_nil, List.getD_cons_succ, List.getD_cons_zero, List.set_cons_succ, List.set_cons_zero, Nat.reduceAdd, Nat.reduceLT, Nat.reduceLeDiff, Nat.zero_le, Nat.zero_add, Nat.add_zero]
    exact ih (i + 1) (by omega)
theorem es_broken (hP : P.length = 135) {Ls : List (List Int32)} {br : Nat} {r : List Int32} {c0 : Int32} (n00 : n0 0 = nI W) (hW : W < 1000) (hs8 : s + 8 < 1000) (hr : r.head? = some c0) (hc : c0 ≠ 32) (M : ES P S n0 A0 (tx Ls ++ (rp s ++ r)) Ls.length (mxl Ls) br h) (hX : (tx Ls).length + (s + r.length) < 16800) (hb : (tx Ls).length + (tx (brk W s 100 s r)).length ≤ 16800) (h1 : mxl Ls < 17000) (h2 : Ls.length < 17800) (h3 : br < 17800) (K : ∀ h', ES P S n0 A0 (tx (Ls ++ brk W s 100 s r)) (Ls ++ brk W s 100 s r).length (mxl (Ls ++ brk W s 100 s r)) (br + ((brk W s 100 s r).length - 1)) h' → Q none h') : wp (d + 3) 142 0 [some (.ref 135), some (.int (nI (tx Ls).length)), none, none, none, none, none, none, none, none] [] h Q := by
  obtain ⟨n, A, hh, m1, m2, m3, m4, m5, m6, m7, m8⟩ := id M
  subst hh
  simp only [k_142_0, k_142_1, k_142_2, k_142_3, k_142_4, k_142_5, am_cat, am_kill, Value.category, List.map_cons, List.map_nil, List.sum_cons, List.sum_nil, Option.toList_some, Option.toList_none, List.cons_append, List.nil_append, List.length_cons, List.length_nil, List.getD_cons_succ, List.getD_cons_zero, List.set_cons_succ, List.set_cons_zero, Nat.reduceAdd, Nat.reduceLT, Nat.reduceLeDiff, Nat.zero_le, Nat.zero_add, Nat.add_zero]
  have := eb_first (P := P) (S := S) (n := n) (d := d + 2) (Q := Q) (o2 := none) (o4 := some (.int (nI (tx Ls).length))) hP rfl (by rw [List.length_append, List.length_append, rp_len]; exact hX) m7 hr hc s 0 (by omega)
  refine this.mpr ?_
  simp only [k_142_25, k_142_26, k_142_27, k_142_28, am_cat, am_kill, Value.category, List.map_cons, List.map_nil, List.sum_cons, List.sum_nil, Option.toList_some, Option.toList_none, List.cons_append, List.nil_append, List.length_cons, List.length_nil, List.getD_cons_succ, List.getD_cons_zero, List.set_cons_succ, List.set_cons_zero, Nat.reduceAdd, Nat.reduceLT, Nat.reduceLeDiff, Nat.zero_le, Nat.zero_add, Nat.add_zero]
  exact eb_loop hP n00 hW hs8 100 0 Ls br s r _ none none none none (by omega) (by omega) M hb h1 (by omega) (by omega) K
end MB3
