/-! THE PROGRAM WRITES ITS TEXT -/
def Txw (h : AH) (W : Nat) (Ls : List (List Int32)) (line : List Int32) (br a4 st : Nat) (c4 ss : List Value) : Prop := h[131]? = some (.inr 7, [.int (nI W), .ref 132, .ref st, .int (nI Ls.length), .int (nI (tx Ls).length), .int (nI (mxl Ls)), .int (nI br)]) ∧ Chs h 132 a4 (tx Ls ++ line) c4 ∧ h[st]? = some (.inl .int, ss) ∧ Ls.length ≤ ss.length ∧ 1 ≤ ss.length ∧ ∀ j, j < Ls.length → ss[j]? = some (.int (nI (tx (Ls.take j)).length))
def Txb (g h : AH) (a40 st0 c40 ss0 a4 st nc ns : Nat) : Prop := Fr (fun b => b = 131 ∨ b = 132 ∨ b = a40 ∨ b = st0) g h ∧ (a4 = a40 ∨ g.length ≤ a4) ∧ (st = st0 ∨ g.length ≤ st) ∧ (h.length + (c40 + ss0) ≤ g.length + (nc + ns) ∧ am_sz h + 2 * (c40 + ss0) ≤ am_sz g + 2 * (nc + ns) ∧ c40 ≤ nc ∧ ss0 ≤ ns ∧ nc ≤ 40000 ∧ ns ≤ 40000) ∧ 105 ≤ a40 ∧ 105 ≤ st0 ∧ 147 ≤ g.length
def TW (g : AH) (a40 st0 c40 ss0 W : Nat) (Ls : List (List Int32)) (line : List Int32) (br : Nat) (h : AH) : Prop := ∃ a4 st c4 ss, Txw h W Ls line br a4 st c4 ss ∧ Txb g h a40 st0 c40 ss0 a4 st c4.length ss.length
section TX
variable {g h h' : AH} {a40 st0 c40 ss0 a4 st W br d : Nat} {Ls : List (List Int32)} {line : List Int32} {c4 ss : List Value} {Q : Option Value → AH → Prop}
theorem Txw.ne (X : Txw h W Ls line br a4 st c4 ss) : a4 ≠ 131 ∧ st ≠ 131 ∧ st ≠ 132 ∧ st ≠ a4 ∧ a4 ≠ 132 := by
  obtain ⟨x1, x2, x3, -⟩ := X
  refine ⟨fun e => ?_, fun e => ?_, fun e => ?_, fun e => ?_, fun e => ?_⟩
  · have := x2.2.1
    rw [e, x1] at this
    cases this
  · rw [e, x1] at x3
    cases x3
  · rw [e, x2.1] at x3
    cases x3
  · rw [e, x2.2.1] at x3
    cases x3
  · have := x2.2.1
    rw [e, x2.1] at this
    cases this
theorem TW.app (X : TW g a40 st0 c40 ss0 W Ls line br h) : ∃ ar cs, Chs h 132 ar (tx Ls ++ line) cs ∧ ∀ (w : List Int32) (Q : AH → Prop), (tx Ls ++ line).length + w.length ≤ 20000 → (∀ h', TW g a40 st0 c40 ss0 W Ls (line ++ w) br h' → Q h') → App h 132 ar (tx Ls ++ line) cs w Q := by
  obtain ⟨a4, st, c4, ss, X, Y⟩ := X
  obtain ⟨n1, n2, n3, n4, n5⟩ := X.ne
  obtain ⟨x1, x2, x3, x4⟩ := X
  refine ⟨a4, c4, x2, fun w Q hw K h1 ar' cs' H' E' => ?_⟩
  obtain ⟨⟨q1, q2⟩, q3, q4, q5, q6, q7⟩ := E'
  obtain ⟨f, y1, y2, ⟨y3, y4, y5, y6, y7, y8⟩, y9⟩ := Y
  have f1 := f.1
  refine K h1 ⟨ar', st, cs', ss, ⟨by rw [q2 131 (lt_of_get x1) (by decide) n1.symm]; exact x1, by rw [← List.append_assoc]; exact H', by rw [q2 st (lt_of_get x3) n3 n4]; exact x3, x4⟩, ⟨by omega, fun b hb ne => ?_⟩, ?_, y2, ⟨by omega, by omega, by omega, y6, by omega, y8⟩, y9⟩
  · rw [q2 b (by omega) (fun z => ne (Or.inr (Or.inl z))) (fun z => ?_)]
    · exact f.2 b hb ne
    · rcases y1 with y | y
      · exact ne (Or.inr (Or.inr (Or.inl (z.trans y))))
      · omega
  · rcases q3 with z | z
    · rw [z]
      exact y1
    · exact Or.inr (by omega)
theorem TW.ov (X : TW g a40 st0 c40 ss0 W Ls line br h) : okV h 132 1 ↔ True := by
  obtain ⟨a4, st, c4, ss, X, Y⟩ := X
  exact okV_iff X.2.1.1
theorem TW.ot (X : TW g a40 st0 c40 ss0 W Ls line br h) : okV h 131 7 ↔ True := by
  obtain ⟨a4, st, c4, ss, X, Y⟩ := X
  exact okV_iff X.1
theorem TW.og {k : Nat} (X : TW g a40 st0 c40 ss0 W Ls line br h) : okG h 131 7 k ↔ k < 7 := by
  obtain ⟨a4, st, c4, ss, X, Y⟩ := X
  exact okG_iff X.1
theorem TW.f1 (X : TW g a40 st0 c40 ss0 W Ls line br h) : fld h 131 1 = .ref 132 := by
  obtain ⟨a4, st, c4, ss, X, Y⟩ := X
  rw [fld_of X.1]
  rfl
theorem TW.f0 (X : TW g a40 st0 c40 ss0 W Ls line br h) : fld h 131 0 = .int (nI W) := by
  obtain ⟨a4, st, c4, ss, X, Y⟩ := X
  rw [fld_of X.1]
  rfl
theorem TW.fr (X : TW g a40 st0 c40 ss0 W Ls line br h) : Fr (fun b => b = 131 ∨ b = 132 ∨ b = a40 ∨ b = st0) g h := by
  obtain ⟨a4, st, c4, ss, X, Y⟩ := X
  exact Y.1
theorem TW.sta (X : TW g a40 st0 c40 ss0 W Ls line br h) (S : Sta g) : Sta h := by
  obtain ⟨a4, st, c4, ss, X, f, y1, y2, y3, y4, y5, y6⟩ := X
  intro r hr
  have e1 := sN_eq
  have e2 := sN5
  have e3 := sH_len
  rw [f.2 r (by omega) (fun z => by omega)]
  exact S r hr
theorem tw_puts {i : Nat} {o : Option Value} (X : TW g a40 st0 c40 ss0 W Ls line br h) (S : Sta g) (hi : i < sS) (hb : (tx Ls ++ line).length + (sx i).length ≤ 20000) (K : ∀ h', TW g a40 st0 c40 ss0 W Ls (line ++ sx i) br h' → Q none h') : wp (d + 4) 35 0 [some (.ref 132), some (.ref (2 * i)), o] [] h Q := by
  obtain ⟨ar, cs, H, A⟩ := X.app
  exact sp_puts (bs := sx i) H ((X.sta S).str i hi) (by omega) (A _ _ hb K)
theorem tw_num {n : Int64} (X : TW g a40 st0 c40 ss0 W Ls line br h) (hb : (tx Ls ++ line).length + 20 ≤ 20000) (K : ∀ h', TW g a40 st0 c40 ss0 W Ls (line ++ num n.toInt) br h' → Q none h') : wp (d + 2) 47 0 [some (.ref 132), some (.long n), none, none, none, none] [] h Q := by
  obtain ⟨ar, cs, H, A⟩ := X.app
  have := num_len n.toInt
  exact sp_putNumber H (by omega) (A _ _ (by omega) K)
theorem tw_bl {k : Nat} {o : Option Value} (X : TW g a40 st0 c40 ss0 W Ls line br h) (hb : (tx Ls ++ line).length + k ≤ 20000) (K : ∀ h', TW g a40 st0 c40 ss0 W Ls (line ++ rp k) br h' → Q none h') : wp (d + 2) 81 0 [some (.ref 132), some (.int (nI k)), o] [] h Q := by
  obtain ⟨ar, cs, H, A⟩ := X.app
  exact sp_bl H (by omega) (A _ _ (by rw [List.length_replicate]; exact hb) K)
theorem tw_putr {p q f e : Nat} {y : List Int32} {cy : List Value} {o : Option Value} (X : TW g a40 st0 c40 ss0 W Ls line br h) (Y : Chs g p q y cy) (n1 : p ≠ 131 ∧ p ≠ 132 ∧ p ≠ a40 ∧ p ≠ st0) (n2 : q ≠ 131 ∧ q ≠ 132 ∧ q ≠ a40 ∧ q ≠ st0) (hf : f ≤ e) (he : e ≤ y.length) (hb : (tx Ls ++ line).length + e ≤ 20000) (K : ∀ h', TW g a40 st0 c40 ss0 W Ls (line ++ (y.drop f).take (e - f)) br h' → Q none h') : wp (d + 2) 60 0 [some (.ref 132), some (.ref p), some (.int (nI f)), some (.int (nI e)), o] [] h Q := by
  obtain ⟨ar, cs, H, A⟩ := X.app
  have F := X.fr
  obtain ⟨m1, m2, m3, m4⟩ := n1
  obtain ⟨m5, m6, m7, m8⟩ := n2
  have Y' := Y.fr F (fun z => by rcases z with z | z | z | z <;> contradiction) (fun z => by rcases z with z | z | z | z <;> contradiction)
  have hq : ar ≠ q := by
    obtain ⟨a4, st, c4, ss, Z, f, y1, y2, y3⟩ := X
    have e1 : (.ref ar : Value) = .ref a4 := by
      have := Z.2.1.1
      rw [H.1] at this
      injection this with this
      injection this with _ this
      injection this
    have e1 : ar = a4 := by injection e1
    have := lt_of_get Y.2.1
    rcases y1 with y | y
    · rw [e1, y]
      exact m7.symm
    · omega
  refine sp_putr H Y' m2.symm hq hf he (by omega) (A _ _ ?_ K)
  rw [List.length_take]
  omega
theorem tw_end40 {o : Option Value} (X : Txw h W Ls line br a4 st c4 ss) (Y : Txb g h a40 st0 c40 ss0 a4 st c4.length ss.length) (hl : Ls.length < ss.length) (hb : (tx Ls ++ line).length < 20000) (K : ∀ h', TW g a40 st0 c40 ss0 W (Ls ++ [line]) [] br h' → Q none h') : wp (d + 2) 76 40 [some (.ref 131), o] [] h Q := by
  obtain ⟨n1, n2, n3, n4, n5⟩ := X.ne
  obtain ⟨x1, x2, x3, x4, x5, x6⟩ := X
  have hN := sN5
  have tg := tx_ge Ls
  rw [List.length_append] at hb
  have hs1 : sN ≤ 131 := by rw [hN]; decide
  have hs2 : sN ≤ st := by
    obtain ⟨-, -, y2, -, -, y5, y6⟩ := Y
    rw [hN]
    omega
  have hc : Ls.length < 2 ^ 31 := by omega
  have o1 : okA am_isI h st (nI Ls.length) := ⟨_, _, x3, rfl, nI_pos hc, by rw [nI_clamp hc]; exact hl⟩
  simp only [k_76_40, k_76_40N, k_76_44, k_76_44N, k_76_48, k_76_48N, k_76_41, k_76_45, k_76_49, okG_iff x1, fld_of x1, am_cat, am_kill, Value.category, List.map_cons, List.map_nil, List.sum_cons, List.sum_nil, Option.toList_some, Option.toList_none, List.cons_append, List.nil_append, List.length_cons, List.length_nil, List.getD_cons_succ, List.getD_cons_zero, List.set_cons_succ, List.set_cons_zero, Nat.reduceAdd, Nat.reduceLT, Nat.reduceLeDiff, Nat.zero_le, Nat.zero_add, Nat.add_zero]
  rw [k_76_52 o1 hs2, hast_of x3, nI_clamp hc]
  -- the new start
  have F1 : Fr (fun b => b = st) h (h.set st (.inl .int, ss.set Ls.length (.int (nI (tx Ls).length)))) := Fr.set
  have w1 := get_set_eq (x := ((.inl .int, ss.set Ls.length (.int (nI (tx Ls).length))) : AC)) x3
  have z1 : am_sz (h.set st (.inl .int, ss.set Ls.length (.int (nI (tx Ls).length)))) = am_sz h := sz_set x3 (List.length_set ..)
  have l1 : (h.set st (.inl .int, ss.set Ls.length (.int (nI (tx Ls).length)))).length = h.length := List.length_set ..
  generalize h.set st (.inl .int, ss.set Ls.length (.int (nI (tx Ls).length))) = h1 at F1 w1 z1 l1
  have x1a := F1.get x1 n2.symm
  simp only [k_76_53, k_76_53N, k_76_54, k_76_54i, k_76_58, k_76_59, k_76_55, k_76_60, okG_iff x1a, fld_of x1a, hput_of x1a, hs1, nI_1, am_cat, am_kill, Value.category, List.map_cons, List.map_nil, List.sum_cons, List.sum_nil, Option.toList_some, Option.toList_none, List.cons_append, List.nil_append, List.length_cons, List.length_nil, List.getD_cons_succ, List.getD_cons_zero, List.set_cons_succ, List.set_cons_zero, Nat.reduceAdd, Nat.reduceLT, Nat.reduceLeDiff, Nat.zero_le, Nat.zero_add, Nat.add_zero]
  have x1b := get_set_eq (x := ((.inr 7, [.int (nI W), .ref 132, .ref st, .int (nI (Ls.length + 1)), .int (nI (tx Ls).length), .int (nI (mxl Ls)), .int (nI br)]) : AC)) x1a
  have F2 : Fr (fun b => b = 131 ∨ b = st) h (h1.set 131 (.inr 7, [.int (nI W), .ref 132, .ref st, .int (nI (Ls.length + 1)), .int (nI (tx Ls).length), .int (nI (mxl Ls)), .int (nI br)])) := Fr.tr (F1.mono (fun b _ z => Or.inr z)) Fr.set (fun b _ z => Or.inl z)
  have z2 := sz_set (vs' := [.int (nI W), .ref 132, .ref st, .int (nI (Ls.length + 1)), .int (nI (tx Ls).length), .int (nI (mxl Ls)), .int (nI br)]) x1a rfl
  have l2 : (h1.set 131 (.inr 7, [.int (nI W), .ref 132, .ref st, .int (nI (Ls.length + 1)), .int (nI (tx Ls).length), .int (nI (mxl Ls)), .int (nI br)])).length = h1.length := List.length_set ..
  have w2 : (h1.set 131 (.inr 7, [.int (nI W), .ref 132, .ref st, .int (nI (Ls.length + 1)), .int (nI (tx Ls).length), .int (nI (mxl Ls)), .int (nI br)]))[st]? = some (.inl .int, ss.set Ls.length (.int (nI (tx Ls).length))) := by rw [get_set_ne n2.symm]; exact w1
  generalize h1.set 131 (.inr 7, [.int (nI W), .ref 132, .ref st, .int (nI (Ls.length + 1)), .int (nI (tx Ls).length), .int (nI (mxl Ls)), .int (nI br)]) = h2 at x1b F2 z2 l2 w2
  have x2b := x2.fr F2 (by omega) (by omega)
  have em : (if nI (mxl Ls) < nI line.length then nI line.length else nI (mxl Ls)) = nI (mxl (Ls ++ [line])) := by
    rw [mxl_app]
    by_cases c : mxl Ls < line.length
    · rw [if_pos (nI_lt c (by omega)), Nat.max_eq_right (by omega)]
    · rw [if_neg (nI_nlt (by omega) (by omega)), Nat.max_eq_left (by omega)]
  have ed : nI (tx Ls ++ line).length - nI (tx Ls).length = nI line.length := by
    rw [nI_sub2 (by rw [List.length_append]; omega), List.length_append, Nat.add_sub_cancel_left]
  simp only [k_76_63, k_76_63N, k_76_64, k_76_64N, k_76_68, k_76_68N, k_76_65, k_76_69, k_76_72, okG_iff x1b, fld_of x1b, okV_iff x2b.1, sp_len x2b, am_cat, am_kill, Value.category, List.map_cons, List.map_nil, List.sum_cons, List.sum_nil, Option.toList_some, Option.toList_none, List.cons_append, List.nil_append, List.length_cons, List.length_nil, List.getD_cons_succ, List.getD_cons_zero, List.set_cons_succ, List.set_cons_zero, Nat.reduceAdd, Nat.reduceLT, Nat.reduceLeDiff, Nat.zero_le, Nat.zero_add, Nat.add_zero]
  simp only [k_76_75, k_76_75N, k_76_79, k_76_76, k_76_80, k_76_83, okG_iff x1b, fld_of x1b, hput_of x1b, hs1, ed, em, am_cat, am_kill, Value.category, List.map_cons, List.map_nil, List.sum_cons, List.sum_nil, Option.toList_some, Option.toList_none, List.cons_append, List.nil_append, List.length_cons, List.length_nil, List.getD_cons_succ, List.getD_cons_zero, List.set_cons_succ, List.set_cons_zero, Nat.reduceAdd, Nat.reduceLT, Nat.reduceLeDiff, Nat.zero_le, Nat.zero_add, Nat.add_zero]
  have x1c := get_set_eq (x := ((.inr 7, [.int (nI W), .ref 132, .ref st, .int (nI (Ls.length + 1)), .int (nI (tx Ls).length), .int (nI (mxl (Ls ++ [line]))), .int (nI br)]) : AC)) x1b
  have F3 : Fr (fun b => b = 131 ∨ b = st) h (h2.set 131 (.inr 7, [.int (nI W), .ref 132, .ref st, .int (nI (Ls.length + 1)), .int (nI (tx Ls).length), .int (nI (mxl (Ls ++ [line]))), .int (nI br)])) := Fr.tr F2 Fr.set (fun b _ z => Or.inl z)
  have z3 := sz_set (vs' := [.int (nI W), .ref 132, .ref st, .int (nI (Ls.length + 1)), .int (nI (tx Ls).length), .int (nI (mxl (Ls ++ [line]))), .int (nI br)]) x1b rfl
  have l3 : (h2.set 131 (.inr 7, [.int (nI W), .ref 132, .ref st, .int (nI (Ls.length + 1)), .int (nI (tx Ls).length), .int (nI (mxl (Ls ++ [line]))), .int (nI br)])).length = h2.length := List.length_set ..
  have w3 : (h2.set 131 (.inr 7, [.int (nI W), .ref 132, .ref st, .int (nI (Ls.length + 1)), .int (nI (tx Ls).length), .int (nI (mxl (Ls ++ [line]))), .int (nI br)]))[st]? = some (.inl .int, ss.set Ls.length (.int (nI (tx Ls).length))) := by rw [get_set_ne n2.symm]; exact w2
  generalize h2.set 131 (.inr 7, [.int (nI W), .ref 132, .ref st, .int (nI (Ls.length + 1)), .int (nI (tx Ls).length), .int (nI (mxl (Ls ++ [line]))), .int (nI br)]) = h3 at x1c F3 z3 l3 w3
  have x2c := x2.fr F3 (by omega) (by omega)
  clear x1a x1b x2b F1 F2 w1 w2
  simp only [k_76_86, k_76_86N, k_76_90, k_76_87, k_76_92, okG_iff x1c, fld_of x1c, okV_iff x2c.1, am_cat, am_kill, Value.category, List.map_cons, List.map_nil, List.sum_cons, List.sum_nil, Option.toList_some, Option.toList_none, List.cons_append, List.nil_append, List.length_cons, List.length_nil, List.getD_cons_succ, List.getD_cons_zero, List.set_cons_succ, List.set_cons_zero, Nat.reduceAdd, Nat.reduceLT, Nat.reduceLeDiff, Nat.zero_le, Nat.zero_add, Nat.add_zero]
  refine sp_put x2c ⟨by decide, by decide⟩ (by rw [List.length_append]; omega) (fun h4 a4' c4' H4 E4 => ?_)
  obtain ⟨⟨q1, q2⟩, q3, q4, q5, q6, q7⟩ := E4
  have x1d : h4[131]? = some (.inr 7, [.int (nI W), .ref 132, .ref st, .int (nI (Ls.length + 1)), .int (nI (tx Ls).length), .int (nI (mxl (Ls ++ [line]))), .int (nI br)]) := by rw [q2 131 (lt_of_get x1c) (by decide) n1.symm]; exact x1c
  have w4 : h4[st]? = some (.inl .int, ss.set Ls.length (.int (nI (tx Ls).length))) := by rw [q2 st (lt_of_get w3) n3 n4]; exact w3
  simp only [k_76_95, k_76_95N, k_76_96, k_76_96N, k_76_97, k_76_100, okG_iff x1d, fld_of x1d, okV_iff H4.1, sp_len H4, am_cat, am_kill, Value.category, List.map_cons, List.map_nil, List.sum_cons, List.sum_nil, Option.toList_some, Option.toList_none, List.cons_append, List.nil_append, List.length_cons, List.length_nil, List.getD_cons_succ, List.getD_cons_zero, List.set_cons_succ, List.set_cons_zero, Nat.reduceAdd, Nat.reduceLT, Nat.reduceLeDiff, Nat.zero_le, Nat.zero_add, Nat.add_zero]
  simp only [k_76_106, k_76_103, okG_iff x1d, hput_of x1d, hs1, am_cat, am_kill, Value.category, List.map_cons, List.map_nil, List.sum_cons, List.sum_nil, Option.toList_some, Option.toList_none, List.cons_append, List.nil_append, List.length_cons, List.length_nil, List.getD_cons_succ, List.getD_cons_zero, List.set_cons_succ, List.set_cons_zero, Nat.reduceAdd, Nat.reduceLT, Nat.reduceLeDiff, Nat.zero_le, Nat.zero_add, Nat.add_zero]
  have et : tx Ls ++ line ++ [10] = tx (Ls ++ [line]) ++ [] := by rw [tx_app, List.append_nil, List.append_assoc]
  have el : (tx Ls ++ line ++ [10]).length = (tx (Ls ++ [line])).length := by rw [et, List.append_nil]
  have ha4 : a4' ≠ 131 := fun e => by
    have := H4.2.1
    rw [e, x1d] at this
    cases this
  rw [el]
  have F4 : Fr (fun b => b = 131) h4 (h4.set 131 (.inr 7, [.int (nI W), .ref 132, .ref st, .int (nI (Ls.length + 1)), .int (nI (tx (Ls ++ [line])).length), .int (nI (mxl (Ls ++ [line]))), .int (nI br)])) := Fr.set
  have x1e := get_set_eq (x := ((.inr 7, [.int (nI W), .ref 132, .ref st, .int (nI (Ls.length + 1)), .int (nI (tx (Ls ++ [line])).length), .int (nI (mxl (Ls ++ [line]))), .int (nI br)]) : AC)) x1d
  have z4 := sz_set (vs' := [.int (nI W), .ref 132, .ref st, .int (nI (Ls.length + 1)), .int (nI (tx (Ls ++ [line])).length), .int (nI (mxl (Ls ++ [line]))), .int (nI br)]) x1d rfl
  have l4 : (h4.set 131 (.inr 7, [.int (nI W), .ref 132, .ref st, .int (nI (Ls.length + 1)), .int (nI (tx (Ls ++ [line])).length), .int (nI (mxl (Ls ++ [line]))), .int (nI br)])).length = h4.length := List.length_set ..
  generalize h4.set 131 (.inr 7, [.int (nI W), .ref 132, .ref st, .int (nI (Ls.length + 1)), .int (nI (tx (Ls ++ [line])).length), .int (nI (mxl (Ls ++ [line]))), .int (nI br)]) = h5 at F4 x1e z4 l4
  have ll : (Ls ++ [line]).length = Ls.length + 1 := by rw [List.length_append]; rfl
  obtain ⟨f, y1, y2, ⟨y3, y4, y5, y6, y7, y8⟩, y9, y10, y11⟩ := Y
  rw [List.length_append] at q7
  have q7 : c4'.length ≤ c4.length ∨ c4'.length ≤ 2 * ((tx Ls).length + line.length + 1) := q7
  have f0 := f.1
  have f3 := F3.1
  have f4 := F4.1
  refine K h5 ⟨a4', st, c4', ss.set Ls.length (.int (nI (tx Ls).length)), ⟨by rw [ll]; exact x1e, by rw [← et]; exact H4.fr F4 (by decide) ha4, F4.get w4 n2, by rw [ll, List.length_set]; omega, by rw [List.length_set]; exact x5, fun j hj => ?_⟩, ⟨by omega, fun b hb' ne => ?_⟩, ?_, y2, ⟨by rw [List.length_set]; omega, by rw [List.length_set]; omega, by omega, by rw [List.length_set]; exact y6, by omega, by rw [List.length_set]; exact y8⟩, y9, y10, y11⟩
  · rw [ll] at hj
    rw [List.getElem?_set]
    by_cases c : Ls.length = j
    · subst c
      rw [if_pos rfl, if_pos hl, List.take_left]
    · rw [if_neg c, x6 j (by omega), List.take_append_of_le_length (by omega)]
  · have e1 : ¬ b = st := fun z => by
      rcases y2 with y | y
      · exact ne (Or.inr (Or.inr (Or.inr (z.trans y))))
      · omega
    have e2 : ¬ b = a4 := fun z => by
      rcases y1 with y | y
      · exact ne (Or.inr (Or.inr (Or.inl (z.trans y))))
      · omega
    have e3 : ¬ b = 131 := fun z => ne (Or.inl z)
    rw [F4.2 b (by omega) e3, q2 b (by omega) (fun z => ne (Or.inr (Or.inl z))) e2, F3.2 b (by omega) (fun z => z.elim e3 e1)]
    exact f.2 b hb' ne
  · rcases q3 with z | z
    · rw [z]
      exact y1
    · exact Or.inr (by omega)
theorem tw_end (X : TW g a40 st0 c40 ss0 W Ls line br h) (hb : (tx Ls ++ line).length < 20000) (K : ∀ h', TW g a40 st0 c40 ss0 W (Ls ++ [line]) [] br h' → Q none h') : wp (d + 2) 76 0 [some (.ref 131), none] [] h Q := by
  obtain ⟨a4, st, c4, ss, X, Y⟩ := X
  obtain ⟨n1, n2, n3, n4, n5⟩ := X.ne
  obtain ⟨x1, x2, x3, x4, x5, x6⟩ := id X
  have hN := sN5
  have tg := tx_ge Ls
  have hb2 := hb
  rw [List.length_append] at hb2
  have hs1 : sN ≤ 131 := by rw [hN]; decide
  have hc : Ls.length < 2 ^ 31 := by omega
  have hsl : ss.length ≤ 40000 := Y.2.2.2.1.2.2.2.2.2
  simp only [k_76_0, k_76_0N, k_76_4, k_76_4N, k_76_8, k_76_9, k_76_1, k_76_5, okG_iff x1, fld_of x1, isA_iff x3, alen_of x3, am_cat, am_kill, Value.category, List.map_cons, List.map_nil, List.sum_cons, List.sum_nil, Option.toList_some, Option.toList_none, List.cons_append, List.nil_append, List.length_cons, List.length_nil, List.getD_cons_succ, List.getD_cons_zero, List.set_cons_succ, List.set_cons_zero, Nat.reduceAdd, Nat.reduceLT, Nat.reduceLeDiff, Nat.zero_le, Nat.zero_add, Nat.add_zero]
  by_cases c : Ls.length = ss.length
  · rw [if_pos (by rw [c]; rfl)]
    have en : (2 : Int32) * nI Ls.length = nI (2 * Ls.length) := by rw [show (2 : Int32) = nI 2 from rfl, nI_mul]
    have hm : 2 * Ls.length < 2 ^ 31 := by omega
    simp only [k_76_12, k_76_13, k_76_13N, k_76_17, k_76_14, okG_iff x1, fld_of x1, en, am_cat, am_kill, Value.category, List.map_cons, List.map_nil, List.sum_cons, List.sum_nil, Option.toList_some, Option.toList_none, List.cons_append, List.nil_append, List.length_cons, List.length_nil, List.getD_cons_succ, List.getD_cons_zero, List.set_cons_succ, List.set_cons_zero, Nat.reduceAdd, Nat.reduceLT, Nat.reduceLeDiff, Nat.zero_le, Nat.zero_add, Nat.add_zero]
    rw [k_76_18 (nI_pos hm) (by rw [nI_clamp hm]; omega), nI_clamp hm]
    have g1 := get_app (x := ((.inl .int, List.replicate (2 * Ls.length) (.int 0)) : AC)) x1
    have g2 := get_app (x := ((.inl .int, List.replicate (2 * Ls.length) (.int 0)) : AC)) x3
    have g3 := get_top (h := h) (x := ((.inl .int, List.replicate (2 * Ls.length) (.int 0)) : AC))
    have hsN : sN ≤ h.length := by have := lt_of_get x1; omega
    have hla : (131 : Nat) ≠ h.length := Nat.ne_of_lt (lt_of_get x1)
    simp only [k_76_20, k_76_20N, k_76_21, k_76_21N, k_76_25, k_76_26, k_76_26N, k_76_27, k_76_28, k_76_28N, k_76_22, k_76_29, okG_iff g1, fld_of g1, am_kill, am_cat, am_kill, Value.category, List.map_cons, List.map_nil, List.sum_cons, List.sum_nil, Option.toList_some, Option.toList_none, List.cons_append, List.nil_append, List.length_cons, List.length_nil, List.getD_cons_succ, List.getD_cons_zero, List.set_cons_succ, List.set_cons_zero, Nat.reduceAdd, Nat.reduceLT, Nat.reduceLeDiff, Nat.zero_le, Nat.zero_add, Nat.add_zero]
    rw [k_76_32 g2 g3 (by decide) rfl (nI_pos hc) (by decide) (by decide) (by rw [nI_clamp hc]; show 0 + Ls.length ≤ _; omega) (by rw [nI_clamp hc, List.length_replicate]; show 0 + Ls.length ≤ _; omega) hsN]
    rw [show (0 : Int32).toNatClampNeg = 0 from rfl, nI_clamp hc]
    have lcp : (am_cp ss (List.replicate (2 * Ls.length) (.int 0)) 0 0 Ls.length).length = 2 * Ls.length := by
      rw [am_cp_len (by omega) (by rw [List.length_replicate]; omega), List.length_replicate]
    have gcp : ∀ j, j < Ls.length → (am_cp ss (List.replicate (2 * Ls.length) (.int 0)) 0 0 Ls.length)[j]? = some (.int (nI (tx (Ls.take j)).length)) := by
      intro j hj
      rw [am_cp_get (by omega) (by rw [List.length_replicate]; omega), if_pos ⟨by omega, by omega⟩, show 0 + (j - 0) = j by omega]
      exact x6 j hj
    generalize am_cp ss (List.replicate (2 * Ls.length) (.int 0)) 0 0 Ls.length = cp at lcp gcp
    have c1 : ((h ++ [((.inl .int, List.replicate (2 * Ls.length) (.int 0)) : AC)]).set h.length (.inl .int, cp))[131]? = some (.inr 7, [.int (nI W), .ref 132, .ref st, .int (nI Ls.length), .int (nI (tx Ls).length), .int (nI (mxl Ls)), .int (nI br)]) := by rw [get_set_ne hla.symm]; exact g1
    have c3 : ((h ++ [((.inl .int, List.replicate (2 * Ls.length) (.int 0)) : AC)]).set h.length (.inl .int, cp))[h.length]? = some (.inl .int, cp) := get_set_eq g3
    have F1 : Fr (fun _ => False) h ((h ++ [((.inl .int, List.replicate (2 * Ls.length) (.int 0)) : AC)]).set h.length (.inl .int, cp)) := ⟨by simp, fun b hb _ => by rw [get_set_ne (Nat.ne_of_gt hb), List.getElem?_append_left hb]⟩
    have z1 : am_sz ((h ++ [((.inl .int, List.replicate (2 * Ls.length) (.int 0)) : AC)]).set h.length (.inl .int, cp)) = am_sz h + 2 * Ls.length := by rw [sz_set g3 (by rw [lcp, List.length_replicate]), am_sz_app, List.length_replicate]
    have l1 : ((h ++ [((.inl .int, List.replicate (2 * Ls.length) (.int 0)) : AC)]).set h.length (.inl .int, cp)).length = h.length + 1 := by rw [List.length_set, List.length_append]; rfl
    generalize (h ++ [((.inl .int, List.replicate (2 * Ls.length) (.int 0)) : AC)]).set h.length (.inl .int, cp) = h1 at c1 c3 F1 z1 l1
    clear g1 g2 g3
    simp only [k_76_35, k_76_35N, k_76_36, k_76_36N, k_76_37, okG_iff c1, hput_of c1, hs1, am_cat, am_kill, Value.category, List.map_cons, List.map_nil, List.sum_cons, List.sum_nil, Option.toList_some, Option.toList_none, List.cons_append, List.nil_append, List.length_cons, List.length_nil, List.getD_cons_succ, List.getD_cons_zero, List.set_cons_succ, List.set_cons_zero, Nat.reduceAdd, Nat.reduceLT, Nat.reduceLeDiff, Nat.zero_le, Nat.zero_add, Nat.add_zero]
    have c4x := get_set_eq (x := ((.inr 7, [.int (nI W), .ref 132, .ref h.length, .int (nI Ls.length), .int (nI (tx Ls).length), .int (nI (mxl Ls)), .int (nI br)]) : AC)) c1
    have z2 := sz_set (vs' := [.int (nI W), .ref 132, .ref h.length, .int (nI Ls.length), .int (nI (tx Ls).length), .int (nI (mxl Ls)), .int (nI br)]) c1 rfl
    have l2 : (h1.set 131 (.inr 7, [.int (nI W), .ref 132, .ref h.length, .int (nI Ls.length), .int (nI (tx Ls).length), .int (nI (mxl Ls)), .int (nI br)])).length = h1.length := List.length_set ..
    have F2 : Fr (fun b => b = 131) h (h1.set 131 (.inr 7, [.int (nI W), .ref 132, .ref h.length, .int (nI Ls.length), .int (nI (tx Ls).length), .int (nI (mxl Ls)), .int (nI br)])) := Fr.tr (F1.mono (fun _ _ z => z.elim)) Fr.set (fun b _ z => z)
    have w2 : (h1.set 131 (.inr 7, [.int (nI W), .ref 132, .ref h.length, .int (nI Ls.length), .int (nI (tx Ls).length), .int (nI (mxl Ls)), .int (nI br)]))[h.length]? = some (.inl .int, cp) := by rw [get_set_ne hla]; exact c3
    generalize h1.set 131 (.inr 7, [.int (nI W), .ref 132, .ref h.length, .int (nI Ls.length), .int (nI (tx Ls).length), .int (nI (mxl Ls)), .int (nI br)]) = h2 at c4x z2 l2 F2 w2
    obtain ⟨f, y1, y2, ⟨y3, y4, y5, y6, y7, y8⟩, y9, y10, y11⟩ := Y
    have f0 := f.1
    refine tw_end40 (st := h.length) ⟨c4x, x2.fr F2 (by decide) n1, w2, by omega, by omega, gcp⟩ ⟨⟨by omega, fun b hb' ne => ?_⟩, y1, Or.inr f0, ⟨by omega, by omega, y5, by omega, y7, by omega⟩, y9, y10, y11⟩ (by omega) hb K
    rw [F2.2 b (by omega) (fun z => ne (Or.inl z))]
    exact f.2 b hb' ne
  · rw [if_neg (fun e => c (by rwa [show Int32.ofNat ss.length = nI ss.length from rfl, nI_eq (by omega) (by omega)] at e))]
    exact tw_end40 X Y (by omega) hb K
theorem tw_line {i : Nat} (X : TW g a40 st0 c40 ss0 W Ls line br h) (S : Sta g) (hi : i < sS) (hb : (tx Ls ++ (line ++ sx i)).length < 20000) (K : ∀ h', TW g a40 st0 c40 ss0 W (Ls ++ [line ++ sx i]) [] br h' → Q none h') : wp (d + 5) 75 0 [some (.ref 131), some (.ref (2 * i))] [] h Q := by
  have e7 : (1 : Nat) < 7 := by decide
  simp only [k_75_0, k_75_0N, k_75_4, k_75_4N, k_75_1, k_75_5, X.og, X.f1, X.ov, e7, am_cat, am_kill, Value.category, List.map_cons, List.map_nil, List.sum_cons, List.sum_nil, Option.toList_some, Option.toList_none, List.cons_append, List.nil_append, List.length_cons, List.length_nil, List.getD_cons_succ, List.getD_cons_zero, List.set_cons_succ, List.set_cons_zero, Nat.reduceAdd, Nat.reduceLT, Nat.reduceLeDiff, Nat.zero_le, Nat.zero_add, Nat.add_zero]
  refine tw_puts X S hi (by rw [← List.append_assoc, List.length_append] at hb; omega) (fun h1 X1 => ?_)
  simp only [k_75_8, k_75_8N, k_75_9, X1.ot, am_cat, am_kill, Value.category, List.map_cons, List.map_nil, List.sum_cons, List.sum_nil, Option.toList_some, Option.toList_none, List.cons_append, List.nil_append, List.length_cons, List.length_nil, List.getD_cons_succ, List.getD_cons_zero, List.set_cons_succ, List.set_cons_zero, Nat.reduceAdd, Nat.reduceLT, Nat.reduceLeDiff, Nat.zero_le, Nat.zero_add, Nat.add_zero]
  refine tw_end (d := d + 2) X1 hb (fun h2 X2 => ?_)
  simp only [k_75_12, am_cat, am_kill, Value.category, List.map_cons, List.map_nil, List.sum_cons, List.sum_nil, Option.toList_some, Option.toList_none, List.cons_append, List.nil_append, List.length_cons, List.length_nil, List.getD_cons_succ, List.getD_cons_zero, List.set_cons_succ, List.set_cons_zero, Nat.reduceAdd, Nat.reduceLT, Nat.reduceLeDiff, Nat.zero_le, Nat.zero_add, Nat.add_zero]
  exact K h2 X2
end TX
