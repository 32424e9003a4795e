/-! THE PROGRAM EMITS -/
theorem txl (A C : List (List Int32)) : (tx (A ++ C)).length = (tx A).length + (tx C).length := by rw [tx_app2, List.length_append]
theorem nI_LL {i : Nat} (h : i < 2 ^ 31) : (nI i).toInt64.toInt = (i : Int) := by
  rw [Int32.toInt_toInt64]
  exact Int32.toInt_ofNat_of_lt h
section EM
variable {g h : AH} {a40 st0 c40 ss0 W br d a1 a2 a3 a4 st : Nat} {Ls : List (List Int32)} {T : List Tst1} {c4 ss : List Value} {Q : Option Value → AH → Prop}
theorem tw_empty (X : Txc g W Ls br a4 st c4 ss) (h1 : c4.length ≤ 40000) (h2 : ss.length ≤ 40000) (h3 : 105 ≤ a4) (h4 : 105 ≤ st) (h5 : 147 ≤ g.length) (K : ∀ h', TW g a4 st c4.length ss.length W [] [] 0 h' → Q none h') : wp (d + 1) 74 0 [some (.ref 131)] [] g Q := by
  obtain ⟨x1, x2, x3, x4, x5, x6⟩ := X
  have hs : sN ≤ 131 := by rw [sN5]; decide
  have n1 : a4 ≠ 131 := fun e => by
    have := x2.2.1
    rw [e, x1] at this
    cases this
  have n2 : st ≠ 131 := fun e => by rw [e, x1] at x3; cases x3
  have n3 : st ≠ 132 := fun e => by rw [e, x2.1] at x3; cases x3
  simp only [k_74_0, k_74_0N, k_74_1, k_74_4, okG_iff x1, fld_of x1, okV_iff x2.1, am_cat, am_kill, Value.category, List.map_cons, List.map_nil, List.sum_cons, List.sum_nil, Option.toList_some, Option.toList_none, List.cons_append, List.nil_append, List.length_cons, List.length_nil, List.getD_cons_succ, List.getD_cons_zero, List.set_cons_succ, List.set_cons_zero, Nat.reduceAdd, Nat.reduceLT, Nat.reduceLeDiff, Nat.zero_le, Nat.zero_add, Nat.add_zero]
  refine sp_empty2 x2 (fun h1' H1 z1 l1 F1 => ?_)
  have w1 := F1.get x1 (by decide)
  have w3 := F1.get x3 n3
  simp only [k_74_7, k_74_7N, k_74_8, k_74_9, okG_iff w1, hput_of w1, hs, am_cat, am_kill, Value.category, List.map_cons, List.map_nil, List.sum_cons, List.sum_nil, Option.toList_some, Option.toList_none, List.cons_append, List.nil_append, List.length_cons, List.length_nil, List.getD_cons_succ, List.getD_cons_zero, List.set_cons_succ, List.set_cons_zero, Nat.reduceAdd, Nat.reduceLT, Nat.reduceLeDiff, Nat.zero_le, Nat.zero_add, Nat.add_zero]
  have u1 := get_set_eq (x := ((.inr 7, [.int (nI W), .ref 132, .ref st, .int 0, .int (nI (tx Ls).length), .int (nI (mxl Ls)), .int (nI br)]) : AC)) w1
  simp only [k_74_12, k_74_12N, k_74_13, k_74_14, okG_iff u1, hput_of u1, hs, List.set_set, am_cat, am_kill, Value.category, List.map_cons, List.map_nil, List.sum_cons, List.sum_nil, Option.toList_some, Option.toList_none, List.cons_append, List.nil_append, List.length_cons, List.length_nil, List.getD_cons_succ, List.getD_cons_zero, List.set_cons_succ, List.set_cons_zero, Nat.reduceAdd, Nat.reduceLT, Nat.reduceLeDiff, Nat.zero_le, Nat.zero_add, Nat.add_zero]
  have u2 := get_set_eq (x := ((.inr 7, [.int (nI W), .ref 132, .ref st, .int 0, .int 0, .int (nI (mxl Ls)), .int (nI br)]) : AC)) w1
  simp only [k_74_17, k_74_17N, k_74_18, k_74_19, okG_iff u2, hput_of u2, hs, List.set_set, am_cat, am_kill, Value.category, List.map_cons, List.map_nil, List.sum_cons, List.sum_nil, Option.toList_some, Option.toList_none, List.cons_append, List.nil_append, List.length_cons, List.length_nil, List.getD_cons_succ, List.getD_cons_zero, List.set_cons_succ, List.set_cons_zero, Nat.reduceAdd, Nat.reduceLT, Nat.reduceLeDiff, Nat.zero_le, Nat.zero_add, Nat.add_zero]
  have u3 := get_set_eq (x := ((.inr 7, [.int (nI W), .ref 132, .ref st, .int 0, .int 0, .int 0, .int (nI br)]) : AC)) w1
  simp only [k_74_22, k_74_22N, k_74_23, k_74_27, k_74_24, okG_iff u3, hput_of u3, hs, List.set_set, am_cat, am_kill, Value.category, List.map_cons, List.map_nil, List.sum_cons, List.sum_nil, Option.toList_some, Option.toList_none, List.cons_append, List.nil_append, List.length_cons, List.length_nil, List.getD_cons_succ, List.getD_cons_zero, List.set_cons_succ, List.set_cons_zero, Nat.reduceAdd, Nat.reduceLT, Nat.reduceLeDiff, Nat.zero_le, Nat.zero_add, Nat.add_zero]
  have u4 := get_set_eq (x := ((.inr 7, [.int (nI W), .ref 132, .ref st, .int 0, .int 0, .int 0, .int 0]) : AC)) w1
  have z2 := sz_set (vs' := [.int (nI W), .ref 132, .ref st, .int 0, .int 0, .int 0, .int 0]) w1 rfl
  have l2 : (h1'.set 131 (.inr 7, [.int (nI W), .ref 132, .ref st, .int 0, .int 0, .int 0, .int 0])).length = h1'.length := List.length_set ..
  have F2 : Fr (fun b => b = 131) h1' (h1'.set 131 (.inr 7, [.int (nI W), .ref 132, .ref st, .int 0, .int 0, .int 0, .int 0])) := Fr.set
  generalize h1'.set 131 (.inr 7, [.int (nI W), .ref 132, .ref st, .int 0, .int 0, .int 0, .int 0]) = h2' at u4 z2 l2 F2
  exact K h2' ⟨a4, st, c4, ss, ⟨u4, H1.fr F2 (by decide) n1, F2.get w3 n2, Nat.zero_le _, x5, fun j hj => absurd hj (Nat.not_lt_zero _)⟩, (F1.mono (fun b _ z => Or.inr (Or.inl z))).tr F2 (fun b _ z => Or.inl z), Or.inl rfl, Or.inl rfl, ⟨by omega, by omega, Nat.le_refl _, Nat.le_refl _, h1, h2⟩, h3, h4, h5⟩
theorem ww_loop (S : Sta g) (U : Sui g T (Fs a1 a2 a3 a40 st0)) (m1 : ¬ (129 = 131 ∨ 129 = 132 ∨ 129 = a40 ∨ 129 = st0)) (m2 : ¬ (130 = 131 ∨ 130 = 132 ∨ 130 = a40 ∨ 130 = st0)) (hT : T.length ≤ 20) (hB : ∀ b ∈ T, okB W b.1) (hW : 40 ≤ W) (hW2 : W ≤ 120) : ∀ (R : List Tst1) (i br : Nat) (Ls : List (List Int32)) (h : AH), T.drop i = R → i ≤ T.length → TW g a40 st0 c40 ss0 W Ls [] br h → (tx Ls).length + (tx (emT W (tls R) i)).length ≤ 16800 → (∀ h' i', TW g a40 st0 c40 ss0 W (Ls ++ emT W (tls R) i) [] (br + emB W (tls R)) h' → wp (d + 6) 73 79 [some (.ref 131), some (.ref 129), some (.int i')] [] h' Q) → wp (d + 6) 73 12 [some (.ref 131), some (.ref 129), some (.int (nI i))] [] h Q := by
  obtain ⟨bs, s1, s2, s3, s4⟩ := U
  have e52 : sS = 52 := rfl
  intro R
  induction R with
  | nil =>
    intro i br Ls h hR hi X hb K
    have hlen := congrArg List.length hR
    rw [List.length_drop, List.length_nil] at hlen
    have y1 := X.fr.get s1 m1
    have e1 : ¬ nI i < nI T.length := nI_nlt (by omega) (by omega)
    simp only [k_73_12, k_73_13, k_73_13N, k_73_14, okV_iff y1, am_cat, am_kill, Value.category, List.map_cons, List.map_nil, List.sum_cons, List.sum_nil, Option.toList_some, Option.toList_none, List.cons_append, List.nil_append, List.length_cons, List.length_nil, List.getD_cons_succ, List.getD_cons_zero, List.set_cons_succ, List.set_cons_zero, Nat.reduceAdd, Nat.reduceLT, Nat.reduceLeDiff, Nat.zero_le, Nat.zero_add, Nat.add_zero]
    simp only [k_70_0, k_70_0N, k_70_4, k_70_1, okG_iff y1, fld_of y1, am_cat, am_kill, Value.category, List.map_cons, List.map_nil, List.sum_cons, List.sum_nil, Option.toList_some, Option.toList_none, List.cons_append, List.nil_append, List.length_cons, List.length_nil, List.getD_cons_succ, List.getD_cons_zero, List.set_cons_succ, List.set_cons_zero, Nat.reduceAdd, Nat.reduceLT, Nat.reduceLeDiff, Nat.zero_le, Nat.zero_add, Nat.add_zero]
    simp only [k_73_17, e1, if_false, am_cat, am_kill, Value.category, List.map_cons, List.map_nil, List.sum_cons, List.sum_nil, Option.toList_some, Option.toList_none, List.cons_append, List.nil_append, List.length_cons, List.length_nil, List.getD_cons_succ, List.getD_cons_zero, List.set_cons_succ, List.set_cons_zero, Nat.reduceAdd, Nat.reduceLT, Nat.reduceLeDiff, Nat.zero_le, Nat.zero_add, Nat.add_zero]
    refine K h _ ?_
    show TW g a40 st0 c40 ss0 W (Ls ++ []) [] br h
    rw [List.append_nil]
    exact X
  | cons b R ih =>
    intro i br Ls h hR hi X hb K
    have hlen := congrArg List.length hR
    rw [List.length_drop, List.length_cons] at hlen
    have hil : i < T.length := by omega
    rw [List.drop_eq_getElem_cons hil] at hR
    injection hR with hc hR
    have gi : T[i]? = some b := by rw [List.getElem?_eq_getElem hil, hc]
    have hbm : b ∈ T := List.mem_of_getElem? gi
    obtain ⟨-, ob2, -, ob4, ob5⟩ := hB b hbm
    obtain ⟨p, q, cs, p1, p2, p3, p4, p5, p6⟩ := s4 i b gi
    have Y : Bdy g a40 st0 p q b.1 cs := ⟨p2, ⟨by omega, by omega, fun z => p5 (Or.inr (Or.inr (Or.inr (Or.inl z)))), fun z => p5 (Or.inr (Or.inr (Or.inr (Or.inr z))))⟩, ⟨by omega, by omega, fun z => p6 (Or.inr (Or.inr (Or.inr (Or.inl z)))), fun z => p6 (Or.inr (Or.inr (Or.inr (Or.inr z))))⟩, ob2⟩
    have eT : emT W (tls (b :: R)) i = (if 0 < i then [[]] else []) ++ ([sx 47] ++ ([sx 48 ++ (num (i : Int) ++ sx 49)] ++ (bodyE W (lnz [] b.1) ++ ([sx 50] ++ emT W (tls R) (i + 1))))) := rfl
    have eB : emB W (tls (b :: R)) = brkN W (lnz [] b.1) + emB W (tls R) := rfl
    rw [eT, txl, txl, txl, txl, txl, tx_one, tx_one, tx_one, List.length_append, List.length_append] at hb
    rw [eT, eB] at K
    have n47 := sxl 47
    have n48 := sxl 48
    have n49 := sxl 49
    have n50 := sxl 50
    have nnum := num_len (i : Int)
    have y1 := X.fr.get s1 m1
    have e1 : nI i < nI T.length := nI_lt hil (by omega)
    have e01 : (1 : Nat) < 7 := by decide
    simp only [k_73_12, k_73_13, k_73_13N, k_73_14, okV_iff y1, am_cat, am_kill, Value.category, List.map_cons, List.map_nil, List.sum_cons, List.sum_nil, Option.toList_some, Option.toList_none, List.cons_append, List.nil_append, List.length_cons, List.length_nil, List.getD_cons_succ, List.getD_cons_zero, List.set_cons_succ, List.set_cons_zero, Nat.reduceAdd, Nat.reduceLT, Nat.reduceLeDiff, Nat.zero_le, Nat.zero_add, Nat.add_zero]
    simp only [k_70_0, k_70_0N, k_70_4, k_70_1, okG_iff y1, fld_of y1, am_cat, am_kill, Value.category, List.map_cons, List.map_nil, List.sum_cons, List.sum_nil, Option.toList_some, Option.toList_none, List.cons_append, List.nil_append, List.length_cons, List.length_nil, List.getD_cons_succ, List.getD_cons_zero, List.set_cons_succ, List.set_cons_zero, Nat.reduceAdd, Nat.reduceLT, Nat.reduceLeDiff, Nat.zero_le, Nat.zero_add, Nat.add_zero]
    simp only [k_73_17, k_73_20, k_73_21, e1, if_true, am_cat, am_kill, Value.category, List.map_cons, List.map_nil, List.sum_cons, List.sum_nil, Option.toList_some, Option.toList_none, List.cons_append, List.nil_append, List.length_cons, List.length_nil, List.getD_cons_succ, List.getD_cons_zero, List.set_cons_succ, List.set_cons_zero, Nat.reduceAdd, Nat.reduceLT, Nat.reduceLeDiff, Nat.zero_le, Nat.zero_add, Nat.add_zero]
    have go : ∀ (h : AH), TW g a40 st0 c40 ss0 W (Ls ++ (if 0 < i then [[]] else [])) [] br h → wp (d + 6) 73 28 [some (.ref 131), some (.ref 129), some (.int (nI i))] [] h Q := by
      generalize (if 0 < i then [([] : List Int32)] else []) = J at hb K
      intro h X
      simp only [k_73_28, k_73_28N, k_73_29, k_73_31, X.ot, am_cat, am_kill, Value.category, List.map_cons, List.map_nil, List.sum_cons, List.sum_nil, Option.toList_some, Option.toList_none, List.cons_append, List.nil_append, List.length_cons, List.length_nil, List.getD_cons_succ, List.getD_cons_zero, List.set_cons_succ, List.set_cons_zero, Nat.reduceAdd, Nat.reduceLT, Nat.reduceLeDiff, Nat.zero_le, Nat.zero_add, Nat.add_zero]
      refine tw_line (i := 47) X S (by rw [e52]; decide) (by rw [List.length_append, txl, List.nil_append]; omega) (fun h1 X1 => ?_)
      rw [List.nil_append] at X1
      simp only [k_73_34, k_73_34N, k_73_35, k_73_38, k_73_40, X1.og, X1.f1, X1.ov, e01, am_cat, am_kill, Value.category, List.map_cons, List.map_nil, List.sum_cons, List.sum_nil, Option.toList_some, Option.toList_none, List.cons_append, List.nil_append, List.length_cons, List.length_nil, List.getD_cons_succ, List.getD_cons_zero, List.set_cons_succ, List.set_cons_zero, Nat.reduceAdd, Nat.reduceLT, Nat.reduceLeDiff, Nat.zero_le, Nat.zero_add, Nat.add_zero]
      refine tw_puts (i := 48) X1 S (by rw [e52]; decide) (by rw [List.append_nil, txl, txl, tx_one]; omega) (fun h2 X2 => ?_)
      rw [List.nil_append] at X2
      simp only [k_73_43, k_73_43N, k_73_47, k_73_48, k_73_44, k_73_49, X2.og, X2.f1, X2.ov, e01, am_cat, am_kill, Value.category, List.map_cons, List.map_nil, List.sum_cons, List.sum_nil, Option.toList_some, Option.toList_none, List.cons_append, List.nil_append, List.length_cons, List.length_nil, List.getD_cons_succ, List.getD_cons_zero, List.set_cons_succ, List.set_cons_zero, Nat.reduceAdd, Nat.reduceLT, Nat.reduceLeDiff, Nat.zero_le, Nat.zero_add, Nat.add_zero]
      refine tw_num X2 (by rw [List.length_append, txl, txl, tx_one]; omega) (fun h3 X3 => ?_)
      rw [nI_LL (show i < 2 ^ 31 by omega)] at X3
      simp only [k_73_52, k_73_52N, k_73_53, k_73_55, X3.ot, am_cat, am_kill, Value.category, List.map_cons, List.map_nil, List.sum_cons, List.sum_nil, Option.toList_some, Option.toList_none, List.cons_append, List.nil_append, List.length_cons, List.length_nil, List.getD_cons_succ, List.getD_cons_zero, List.set_cons_succ, List.set_cons_zero, Nat.reduceAdd, Nat.reduceLT, Nat.reduceLeDiff, Nat.zero_le, Nat.zero_add, Nat.add_zero]
      refine tw_line (i := 49) X3 S (by rw [e52]; decide) (by rw [List.length_append, List.length_append, List.length_append, txl, txl, tx_one]; omega) (fun h4 X4 => ?_)
      rw [List.append_assoc] at X4
      have y2 := X4.fr.get s1 m1
      have y3 := X4.fr.get s2 m2
      have o1 : okA am_isO h4 130 (nI i) := ⟨_, _, y3, rfl, nI_pos (by omega), by rw [nI_clamp (by omega)]; omega⟩
      have o2 : arr h4 130 (nI i) = .ref p := by rw [arr_of y3, nI_clamp (by omega), List.getD_eq_getElem?_getD, p1]; rfl
      simp only [k_73_58, k_73_58N, k_73_59, k_73_59N, k_73_60, k_73_61, okV_iff y2, am_cat, am_kill, Value.category, List.map_cons, List.map_nil, List.sum_cons, List.sum_nil, Option.toList_some, Option.toList_none, List.cons_append, List.nil_append, List.length_cons, List.length_nil, List.getD_cons_succ, List.getD_cons_zero, List.set_cons_succ, List.set_cons_zero, Nat.reduceAdd, Nat.reduceLT, Nat.reduceLeDiff, Nat.zero_le, Nat.zero_add, Nat.add_zero]
      simp only [k_77_0, k_77_0N, k_77_4, k_77_1, okG_iff y2, fld_of y2, am_cat, am_kill, Value.category, List.map_cons, List.map_nil, List.sum_cons, List.sum_nil, Option.toList_some, Option.toList_none, List.cons_append, List.nil_append, List.length_cons, List.length_nil, List.getD_cons_succ, List.getD_cons_zero, List.set_cons_succ, List.set_cons_zero, Nat.reduceAdd, Nat.reduceLT, Nat.reduceLeDiff, Nat.zero_le, Nat.zero_add, Nat.add_zero]
      rw [k_77_5 o1, o2]
      simp only [k_77_6, k_77_6N, am_cat, am_kill, Value.category, List.map_cons, List.map_nil, List.sum_cons, List.sum_nil, Option.toList_some, Option.toList_none, List.cons_append, List.nil_append, List.length_cons, List.length_nil, List.getD_cons_succ, List.getD_cons_zero, List.set_cons_succ, List.set_cons_zero, Nat.reduceAdd, Nat.reduceLT, Nat.reduceLeDiff, Nat.zero_le, Nat.zero_add, Nat.add_zero]
      simp only [k_73_64, X4.ot, am_cat, am_kill, Value.category, List.map_cons, List.map_nil, List.sum_cons, List.sum_nil, Option.toList_some, Option.toList_none, List.cons_append, List.nil_append, List.length_cons, List.length_nil, List.getD_cons_succ, List.getD_cons_zero, List.set_cons_succ, List.set_cons_zero, Nat.reduceAdd, Nat.reduceLT, Nat.reduceLeDiff, Nat.zero_le, Nat.zero_add, Nat.add_zero]
      refine tw_body (d := d + 1) X4 Y hW hW2 (fun l hl => (ob4 l hl).1) (by rw [List.append_assoc, List.append_assoc, txl, txl, txl, tx_one, tx_one, List.length_append, List.length_append]; omega) (fun h5 X5 => ?_)
      simp only [k_73_67, k_73_67N, k_73_68, k_73_70, X5.ot, am_cat, am_kill, Value.category, List.map_cons, List.map_nil, List.sum_cons, List.sum_nil, Option.toList_some, Option.toList_none, List.cons_append, List.nil_append, List.length_cons, List.length_nil, List.getD_cons_succ, List.getD_cons_zero, List.set_cons_succ, List.set_cons_zero, Nat.reduceAdd, Nat.reduceLT, Nat.reduceLeDiff, Nat.zero_le, Nat.zero_add, Nat.add_zero]
      refine tw_line (i := 50) X5 S (by rw [e52]; decide) (by rw [List.length_append, List.nil_append, List.append_assoc, List.append_assoc, List.append_assoc, txl, txl, txl, txl, tx_one, tx_one, List.length_append, List.length_append]; omega) (fun h6 X6 => ?_)
      rw [List.nil_append] at X6
      simp only [k_73_73, k_73_76, am_kill, nI_1, am_cat, am_kill, Value.category, List.map_cons, List.map_nil, List.sum_cons, List.sum_nil, Option.toList_some, Option.toList_none, List.cons_append, List.nil_append, List.length_cons, List.length_nil, List.getD_cons_succ, List.getD_cons_zero, List.set_cons_succ, List.set_cons_zero, Nat.reduceAdd, Nat.reduceLT, Nat.reduceLeDiff, Nat.zero_le, Nat.zero_add, Nat.add_zero]
      refine ih (i + 1) _ _ h6 hR (by omega) X6 (by rw [List.append_assoc, List.append_assoc, List.append_assoc, List.append_assoc, txl, txl, txl, txl, txl, tx_one, tx_one, tx_one, List.length_append, List.length_append]; omega) (fun h7 i7 X7 => K h7 i7 ?_)
      simp only [List.append_assoc, Nat.add_assoc] at X7 ⊢
      exact X7
    by_cases c0 : 0 < i
    · have e0 : (0 : Int32) < nI i := nI_lt (a := 0) c0 (by omega)
      rw [if_pos e0]
      simp only [k_73_24, k_73_24N, k_73_25, X.ot, am_cat, am_kill, Value.category, List.map_cons, List.map_nil, List.sum_cons, List.sum_nil, Option.toList_some, Option.toList_none, List.cons_append, List.nil_append, List.length_cons, List.length_nil, List.getD_cons_succ, List.getD_cons_zero, List.set_cons_succ, List.set_cons_zero, Nat.reduceAdd, Nat.reduceLT, Nat.reduceLeDiff, Nat.zero_le, Nat.zero_add, Nat.add_zero]
      refine tw_end (d := d + 3) X (by rw [List.append_nil]; omega) (fun h1 X1 => ?_)
      exact go h1 (by rw [if_pos c0]; exact X1)
    · have e0 : ¬ (0 : Int32) < nI i := by
        rw [show i = 0 by omega]
        decide
      rw [if_neg e0]
      exact go h (by rw [if_neg c0, List.append_nil]; exact X)
theorem tw_write (S : Sta g) (U : Sui g T (Fs a1 a2 a3 a4 st)) (m1 : ¬ (129 = 131 ∨ 129 = 132 ∨ 129 = a4 ∨ 129 = st)) (m2 : ¬ (130 = 131 ∨ 130 = 132 ∨ 130 = a4 ∨ 130 = st)) (hT : T.length ≤ 20) (hB : ∀ b ∈ T, okB W b.1) (hW : 40 ≤ W) (hW2 : W ≤ 120) (X : Txc g W Ls br a4 st c4 ss) (h1 : c4.length ≤ 40000) (h2 : ss.length ≤ 40000) (h3 : 105 ≤ a4) (h4 : 105 ≤ st) (h5 : 147 ≤ g.length) (K : ∀ h', TW g a4 st c4.length ss.length W (emL W (tls T)) [] (emB W (tls T)) h' → Q none h') : wp (d + 6) 73 0 [some (.ref 131), some (.ref 129), none] [] g Q := by
  have e52 : sS = 52 := rfl
  have hL := (emL_ok hT hB).1
  have eL : emL W (tls T) = [sx 46] ++ (emT W (tls T) 0 ++ [sx 51]) := rfl
  rw [eL, txl, txl, tx_one, tx_one] at hL
  simp only [k_73_0, k_73_0N, k_73_1, okV_iff X.1, am_cat, am_kill, Value.category, List.map_cons, List.map_nil, List.sum_cons, List.sum_nil, Option.toList_some, Option.toList_none, List.cons_append, List.nil_append, List.length_cons, List.length_nil, List.getD_cons_succ, List.getD_cons_zero, List.set_cons_succ, List.set_cons_zero, Nat.reduceAdd, Nat.reduceLT, Nat.reduceLeDiff, Nat.zero_le, Nat.zero_add, Nat.add_zero]
  refine tw_empty (d := d + 4) X h1 h2 h3 h4 h5 (fun g1 X1 => ?_)
  simp only [k_73_4, k_73_4N, k_73_5, k_73_7, X1.ot, am_cat, am_kill, Value.category, List.map_cons, List.map_nil, List.sum_cons, List.sum_nil, Option.toList_some, Option.toList_none, List.cons_append, List.nil_append, List.length_cons, List.length_nil, List.getD_cons_succ, List.getD_cons_zero, List.set_cons_succ, List.set_cons_zero, Nat.reduceAdd, Nat.reduceLT, Nat.reduceLeDiff, Nat.zero_le, Nat.zero_add, Nat.add_zero]
  refine tw_line (i := 46) X1 S (by rw [e52]; decide) (by rw [List.length_append, List.nil_append]; show 0 + _ < _; omega) (fun g2 X2 => ?_)
  rw [List.nil_append, List.nil_append] at X2
  simp only [k_73_10, k_73_11, am_kill, am_cat, am_kill, Value.category, List.map_cons, List.map_nil, List.sum_cons, List.sum_nil, Option.toList_some, Option.toList_none, List.cons_append, List.nil_append, List.length_cons, List.length_nil, List.getD_cons_succ, List.getD_cons_zero, List.set_cons_succ, List.set_cons_zero, Nat.reduceAdd, Nat.reduceLT, Nat.reduceLeDiff, Nat.zero_le, Nat.zero_add, Nat.add_zero]
  refine ww_loop S U m1 m2 hT hB hW hW2 T 0 0 _ g2 rfl (Nat.zero_le _) X2 (by rw [tx_one]; omega) (fun g3 i3 X3 => ?_)
  simp only [k_73_79, k_73_79N, k_73_80, k_73_82, X3.ot, am_cat, am_kill, Value.category, List.map_cons, List.map_nil, List.sum_cons, List.sum_nil, Option.toList_some, Option.toList_none, List.cons_append, List.nil_append, List.length_cons, List.length_nil, List.getD_cons_succ, List.getD_cons_zero, List.set_cons_succ, List.set_cons_zero, Nat.reduceAdd, Nat.reduceLT, Nat.reduceLeDiff, Nat.zero_le, Nat.zero_add, Nat.add_zero]
  refine tw_line (i := 51) X3 S (by rw [e52]; decide) (by rw [List.length_append, List.nil_append, txl, tx_one]; omega) (fun g4 X4 => ?_)
  rw [List.nil_append, List.append_assoc, Nat.zero_add] at X4
  simp only [k_73_85, am_cat, am_kill, Value.category, List.map_cons, List.map_nil, List.sum_cons, List.sum_nil, Option.toList_some, Option.toList_none, List.cons_append, List.nil_append, List.length_cons, List.length_nil, List.getD_cons_succ, List.getD_cons_zero, List.set_cons_succ, List.set_cons_zero, Nat.reduceAdd, Nat.reduceLT, Nat.reduceLeDiff, Nat.zero_le, Nat.zero_add, Nat.add_zero]
  exact K g4 X4
end EM
theorem Dj.u45 {a1 a2 a3 a4 st a' s' n : Nat} (H : Dj a1 a2 a3 a4 st) (ha : a' = a4 ∨ n ≤ a') (hs : s' = st ∨ n ≤ s') (hn : 147 ≤ n) (l1 : a1 < n) (l2 : a2 < n) (l3 : a3 < n) (l4 : a4 < n) (l5 : st < n) (ne : s' ≠ a') : Dj a1 a2 a3 a' s' := by
  obtain ⟨d1, d2, d3, d4, -, e1, e2, e3, -, e5, e6, -, e8, -, -⟩ := H.u4 ha hn l1 l2 l3 l5
  obtain ⟨-, -, -, -, d5, -, -, -, e4, -, -, e7, -, e9, -⟩ := H.u5 hs hn l1 l2 l3 l4
  exact ⟨d1, d2, d3, d4, d5, e1, e2, e3, e4, e5, e6, e7, e8, e9, ne.symm⟩
theorem num4 {a s : Nat} (ha : a = 133 ∨ 147 ≤ a) (hs : s = 134 ∨ 147 ≤ s) (b : Nat) (hb : b < 147) (h1 : b ≠ 131) (h2 : b ≠ 132) (h3 : b ≠ 133) (h4 : b ≠ 134) : ¬ (b = 131 ∨ b = 132 ∨ b = a ∨ b = s) := by
  intro z
  rcases z with z | z | z | z
  · exact h1 z
  · exact h2 z
  · clear hs
    omega
  · clear ha
    omega
theorem big4 {p b a s : Nat} (hb : b = p ∨ 147 ≤ b) (h1 : p ≠ 131) (h2 : p ≠ 132) (n1 : b ≠ a) (n2 : b ≠ s) : ¬ (b = 131 ∨ b = 132 ∨ b = a ∨ b = s) := by
  intro z
  rcases z with z | z | z | z
  · omega
  · omega
  · exact n1 z
  · exact n2 z
theorem co_emit {B k d : Nat} {h : AH} {Q : Option Value → AH → Prop} {s : St} (I : SI s) (C : CI B s k h) (K : ∀ h', CI B (oEmit s).1 (k + 1) h' → Fm h h' → Q (some (.int (oEmit s).2)) h') : wp (d + 7) 72 0 [some (.ref 105)] [] h Q := by
  obtain ⟨W, L, R, τ, D, T, tk, Ls, br⟩ := s
  obtain ⟨i1, i2, i3, i4, i5, i6, i7, i8, i9⟩ := I
  obtain ⟨ra, rt, a1, a2, a3, a4, st, u, c0, c1, c2, c3, c4, vs, ss, t1, t2, t3, C0⟩ := C.cb
  clear C
  obtain ⟨l1, l2, l3, l4, l5, l6⟩ := C0.lt
  obtain ⟨q1, ⟨q2, q2'⟩, q3, q4, ⟨b1, b2, b3⟩, q6, q7, q8, q9⟩ := C0
  obtain ⟨d1, d2, d3, d4, d5, e1, e2, e3, e4, e5, e6, e7, e8, e9, e10⟩ := id q8
  have hN := sN5
  have X : h[105]? = some (.inr 0, [.ref 106, .ref ra, .ref rt, .ref 111, .ref 123, .ref 125, .ref 127, .ref 129, .ref 131, .int tk]) := q1
  obtain ⟨f1, f2, f3, f4, f5, f6, f7, f8⟩ := id q9
  have nu := num4 d4 d5
  have h4' : 105 ≤ a4 := by clear nu d1 d2 d3 d5 q8 e1 e2 e3 e4 e5 e6 e7 e8 e9 e10; omega
  have h5' : 105 ≤ st := by clear nu d1 d2 d3 d4 q8 e1 e2 e3 e4 e5 e6 e7 e8 e9 e10; omega
  simp only [k_72_0, k_72_0N, k_72_4, k_72_4N, k_72_1, k_72_5, k_72_8, okG_iff X, fld_of X, okV_iff q7.1, am_cat, am_kill, Value.category, List.map_cons, List.map_nil, List.sum_cons, List.sum_nil, Option.toList_some, Option.toList_none, List.cons_append, List.nil_append, List.length_cons, List.length_nil, List.getD_cons_succ, List.getD_cons_zero, List.set_cons_succ, List.set_cons_zero, Nat.reduceAdd, Nat.reduceLT, Nat.reduceLeDiff, Nat.zero_le, Nat.zero_add, Nat.add_zero]
  refine tw_write q3.2.2.2.1 q6 (nu 129 (by decide) (by decide) (by decide) (by decide) (by decide)) (nu 130 (by decide) (by decide) (by decide) (by decide) (by decide)) i6.1 i6.2 i1.1 i1.2 q7 f6 f7 h4' h5' l6 (fun h' Y => ?_)
  have F := Y.fr
  obtain ⟨a4', st', c4', ss', Z, F', y1, y2, ⟨y3, y4, y5, y6, y7, y8⟩, -⟩ := Y
  obtain ⟨-, -, -, nn, -⟩ := Z.ne
  obtain ⟨x1, x2, x3, x4⟩ := Z
  rw [List.append_nil] at x2
  have X' := F.get X (nu 105 (by decide) (by decide) (by decide) (by decide) (by decide))
  have kp := F.kp (fun b z => by
    rcases z with rfl | rfl | rfl | rfl
    · exact ⟨by rw [hN]; decide, _, q7.1, kn_x⟩
    · exact ⟨by rw [hN]; decide, _, q7.2.1.1, kn_c⟩
    · exact ⟨by rw [hN]; exact h4', _, q7.2.1.2.1, kn_a⟩
    · exact ⟨by rw [hN]; exact h5', _, q7.2.2.1, kn_i⟩)
  simp only [k_72_11, k_72_11N, k_72_12, k_72_15, okG_iff X', fld_of X', okV_iff x1, am_cat, am_kill, Value.category, List.map_cons, List.map_nil, List.sum_cons, List.sum_nil, Option.toList_some, Option.toList_none, List.cons_append, List.nil_append, List.length_cons, List.length_nil, List.getD_cons_succ, List.getD_cons_zero, List.set_cons_succ, List.set_cons_zero, Nat.reduceAdd, Nat.reduceLT, Nat.reduceLeDiff, Nat.zero_le, Nat.zero_add, Nat.add_zero]
  simp only [k_82_0, k_82_0N, k_82_1, k_82_4, okG_iff x1, fld_of x1, okV_iff x2.1, sp_len x2, am_cat, am_kill, Value.category, List.map_cons, List.map_nil, List.sum_cons, List.sum_nil, Option.toList_some, Option.toList_none, List.cons_append, List.nil_append, List.length_cons, List.length_nil, List.getD_cons_succ, List.getD_cons_zero, List.set_cons_succ, List.set_cons_zero, Nat.reduceAdd, Nat.reduceLT, Nat.reduceLeDiff, Nat.zero_le, Nat.zero_add, Nat.add_zero]
  simp only [k_82_7, am_cat, am_kill, Value.category, List.map_cons, List.map_nil, List.sum_cons, List.sum_nil, Option.toList_some, Option.toList_none, List.cons_append, List.nil_append, List.length_cons, List.length_nil, List.getD_cons_succ, List.getD_cons_zero, List.set_cons_succ, List.set_cons_zero, Nat.reduceAdd, Nat.reduceLT, Nat.reduceLeDiff, Nat.zero_le, Nat.zero_add, Nat.add_zero]
  simp only [k_72_18, am_cat, am_kill, Value.category, List.map_cons, List.map_nil, List.sum_cons, List.sum_nil, Option.toList_some, Option.toList_none, List.cons_append, List.nil_append, List.length_cons, List.length_nil, List.getD_cons_succ, List.getD_cons_zero, List.set_cons_succ, List.set_cons_zero, Nat.reduceAdd, Nat.reduceLT, Nat.reduceLeDiff, Nat.zero_le, Nat.zero_add, Nat.add_zero]
  refine K h' ⟨ra, rt, a1, a2, a3, a4', st', u, c0, c1, c2, c3, c4', vs, ss', X', ⟨q2.fr F (nu 106 (by decide) (by decide) (by decide) (by decide) (by decide)) (nu 107 (by decide) (by decide) (by decide) (by decide) (by decide)), q2'⟩, q3.fr F kp (nu 111 (by decide) (by decide) (by decide) (by decide) (by decide)) (nu 114 (by decide) (by decide) (by decide) (by decide) (by decide)), q4.fr F (nu 112 (by decide) (by decide) (by decide) (by decide) (by decide)) (nu 113 (by decide) (by decide) (by decide) (by decide) (by decide)), ⟨⟨t1, b1.fr F (nu 123 (by decide) (by decide) (by decide) (by decide) (by decide)) (big4 d1 (by decide) (by decide) e3 e4)⟩, ⟨t2, b2.fr F (nu 125 (by decide) (by decide) (by decide) (by decide) (by decide)) (big4 d2 (by decide) (by decide) e6 e7)⟩, t3, b3.fr F (nu 127 (by decide) (by decide) (by decide) (by decide) (by decide)) (big4 d3 (by decide) (by decide) e8 e9)⟩, q6.fr F (nu 129 (by decide) (by decide) (by decide) (by decide) (by decide)) (nu 130 (by decide) (by decide) (by decide) (by decide) (by decide)) (fun b x1 x2 x3 => ⟨fun z => ?_, Fs.u5 y2 x2 (Fs.u4 y1 x2 x3)⟩), ⟨x1, x2, x3, x4⟩, q8.u45 y1 y2 l6 l1 l2 l3 l4 l5 nn, ?_⟩ (F.fm (fun b z => ?_))
  · rcases z with z | z | z | z
    · omega
    · omega
    · exact x3 (Or.inr (Or.inr (Or.inr (Or.inl z))))
    · exact x3 (Or.inr (Or.inr (Or.inr (Or.inr z))))
  · clear q8 d1 d2 d3 d4 d5 e1 e2 e3 e4 e5 e6 e7 e8 e9 e10 nu kp q1 q2 q3 q4 q6 q7 y1 y2 l1 l2 l3 l4 l5 nn
    have := F.1
    exact ⟨by omega, by omega, f3, f4, f5, y7, y8, by omega⟩
  · clear q8 e1 e2 e3 e4 e5 e6 e7 e8 e9 e10 nu kp q1 q2 q3 q4 q6 q7 y1 y2 l1 l2 l3 l4 l5 nn d1 d2 d3
    rcases z with z | z | z | z
    · omega
    · omega
    · clear d5
      omega
    · clear d4
      omega
