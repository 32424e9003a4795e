/-! THE PROGRAM WRITES A BODY -/
theorem seg_take {y : List Int32} {s e i : Nat} (h : i ≤ e - s) : ((y.drop s).take (e - s)).take i = (y.drop s).take i := by
  rw [List.take_take, Nat.min_eq_left h]
theorem seg_drop {y : List Int32} {s e i : Nat} : ((y.drop s).take (e - s)).drop i = (y.drop (s + i)).take (e - (s + i)) := by
  rw [List.drop_take, List.drop_drop, Nat.sub_sub]
theorem tx_cons (l : List Int32) (r : List (List Int32)) : (tx (l :: r)).length = l.length + 1 + (tx r).length := by
  show ((l ++ [10]) ++ tx r).length = _
  rw [List.length_append, List.length_append]
  rfl
theorem lb_le (l : List Int32) : lb l ≤ l.length := by
  induction l with
  | nil => exact Nat.le_refl _
  | cons c r ih =>
    show (if c = 32 then lb r + 1 else 0) ≤ r.length + 1
    split <;> omega
/-- a body that the text may read -/
def Bdy (g : AH) (a40 st0 p q : Nat) (y : List Int32) (cy : List Value) : Prop := Chs g p q y cy ∧ (p ≠ 131 ∧ p ≠ 132 ∧ p ≠ a40 ∧ p ≠ st0) ∧ (q ≠ 131 ∧ q ≠ 132 ∧ q ≠ a40 ∧ q ≠ st0) ∧ y.length ≤ 300
section WB
variable {g h : AH} {a40 st0 c40 ss0 W br d p q e : Nat} {Ls : List (List Int32)} {y : List Int32} {cy : List Value} {Q : Option Value → AH → Prop}
theorem TW.bdy {line : List Int32} (X : TW g a40 st0 c40 ss0 W Ls line br h) (Y : Bdy g a40 st0 p q y cy) : Chs h p q y cy := by
  obtain ⟨Y, ⟨m1, m2, m3, m4⟩, ⟨m5, m6, m7, m8⟩, -⟩ := Y
  exact Y.fr X.fr (fun z => by rcases z with z | z | z | z <;> contradiction) (fun z => by rcases z with z | z | z | z <;> contradiction)
theorem wb_last {s bl : Nat} {o2 o5 o7 : Option Value} (X : TW g a40 st0 c40 ss0 W Ls [] br h) (Y : Bdy g a40 st0 p q y cy) (hs : s ≤ e) (he : e ≤ y.length) (hbl : bl ≤ 20) (hb : (tx Ls).length ≤ 16800) (K : ∀ h', TW g a40 st0 c40 ss0 W (Ls ++ [rp bl ++ (y.drop s).take (e - s)]) [] br h' → Q none h') : wp (d + 3) 79 138 [some (.ref 131), some (.ref p), o2, some (.int (nI e)), some (.int (nI s)), o5, some (.int (nI bl)), o7] [] h Q := by
  have e1 : (1 : Nat) < 7 := by decide
  have ly := Y.2.2.2
  simp only [k_79_138, k_79_138N, k_79_142, k_79_139, k_79_144, X.og, X.f1, X.ov, e1, am_cat, am_kill, Value.category, List.map_cons, List.map_nil, List.sum_cons, List.sum_nil, Option.toList_some, Option.toList_none, List.cons_append, List.nil_append, List.length_cons, List.length_nil, List.getD_cons_succ, List.getD_cons_zero, List.set_cons_succ, List.set_cons_zero, Nat.reduceAdd, Nat.reduceLT, Nat.reduceLeDiff, Nat.zero_le, Nat.zero_add, Nat.add_zero]
  refine tw_bl X (by rw [List.append_nil]; omega) (fun h1 X1 => ?_)
  rw [List.nil_append] at X1
  simp only [k_79_147, k_79_147N, k_79_151, k_79_151N, k_79_152, k_79_154, k_79_148, k_79_155, X1.og, X1.f1, X1.ov, e1, am_cat, am_kill, Value.category, List.map_cons, List.map_nil, List.sum_cons, List.sum_nil, Option.toList_some, Option.toList_none, List.cons_append, List.nil_append, List.length_cons, List.length_nil, List.getD_cons_succ, List.getD_cons_zero, List.set_cons_succ, List.set_cons_zero, Nat.reduceAdd, Nat.reduceLT, Nat.reduceLeDiff, Nat.zero_le, Nat.zero_add, Nat.add_zero]
  refine tw_putr X1 Y.1 Y.2.1 Y.2.2.1 hs he (by rw [List.length_append, rp_len]; omega) (fun h2 X2 => ?_)
  simp only [k_79_158, k_79_158N, k_79_159, X2.ot, am_cat, am_kill, Value.category, List.map_cons, List.map_nil, List.sum_cons, List.sum_nil, Option.toList_some, Option.toList_none, List.cons_append, List.nil_append, List.length_cons, List.length_nil, List.getD_cons_succ, List.getD_cons_zero, List.set_cons_succ, List.set_cons_zero, Nat.reduceAdd, Nat.reduceLT, Nat.reduceLeDiff, Nat.zero_le, Nat.zero_add, Nat.add_zero]
  refine tw_end X2 (by rw [List.length_append, List.length_append, rp_len, List.length_take]; omega) (fun h3 X3 => ?_)
  simp only [k_79_162, am_cat, am_kill, Value.category, List.map_cons, List.map_nil, List.sum_cons, List.sum_nil, Option.toList_some, Option.toList_none, List.cons_append, List.nil_append, List.length_cons, List.length_nil, List.getD_cons_succ, List.getD_cons_zero, List.set_cons_succ, List.set_cons_zero, Nat.reduceAdd, Nat.reduceLT, Nat.reduceLeDiff, Nat.zero_le, Nat.zero_add, Nat.add_zero]
  exact K h3 X3
theorem TW.inc (X : TW g a40 st0 c40 ss0 W Ls [] br h) : fld h 131 6 = .int (nI br) ∧ TW g a40 st0 c40 ss0 W Ls [] (br + 1) (hput h 131 6 (.int (nI (br + 1)))) := by
  obtain ⟨a4, st, c4, ss, X, Y⟩ := X
  obtain ⟨n1, n2, n3, n4, n5⟩ := X.ne
  obtain ⟨x1, x2, x3, x4⟩ := X
  obtain ⟨f, y1, y2, ⟨y3, y4, y5⟩, y6⟩ := Y
  refine ⟨by rw [fld_of x1]; rfl, ?_⟩
  rw [hput_of x1]
  have F : Fr (fun b => b = 131) h (h.set 131 (.inr 7, [Value.int (nI W), .ref 132, .ref st, .int (nI Ls.length), .int (nI (tx Ls).length), .int (nI (mxl Ls)), .int (nI br)].set 6 (.int (nI (br + 1))))) := Fr.set
  have z1 := sz_set (vs' := [Value.int (nI W), .ref 132, .ref st, .int (nI Ls.length), .int (nI (tx Ls).length), .int (nI (mxl Ls)), .int (nI br)].set 6 (.int (nI (br + 1)))) x1 (List.length_set ..)
  have z2 : (h.set 131 (.inr 7, [Value.int (nI W), .ref 132, .ref st, .int (nI Ls.length), .int (nI (tx Ls).length), .int (nI (mxl Ls)), .int (nI br)].set 6 (.int (nI (br + 1))))).length = h.length := List.length_set ..
  have x1' := get_set_eq (x := ((.inr 7, [Value.int (nI W), .ref 132, .ref st, .int (nI Ls.length), .int (nI (tx Ls).length), .int (nI (mxl Ls)), .int (nI br)].set 6 (.int (nI (br + 1)))) : AC)) x1
  generalize h.set 131 (.inr 7, [Value.int (nI W), .ref 132, .ref st, .int (nI Ls.length), .int (nI (tx Ls).length), .int (nI (mxl Ls)), .int (nI br)].set 6 (.int (nI (br + 1)))) = h' at F z1 z2 x1'
  exact ⟨a4, st, c4, ss, ⟨x1', x2.fr F (by decide) n1, F.get x3 n2, x4⟩, f.tr F (fun b _ z => Or.inl z), y1, y2, ⟨by omega, by omega, y5⟩, y6⟩
theorem wb_loop {ind : Nat} {o2 : Option Value} (Y : Bdy g a40 st0 p q y cy) (he : e ≤ y.length) (hi : ind ≤ 12) (hW : 40 ≤ W) (hW2 : W ≤ 120) : ∀ (f s bl br : Nat) (Ls : List (List Int32)) (h : AH) (o7 : Option Value), e - s ≤ 3 * f → s ≤ e → bl ≤ 20 → TW g a40 st0 c40 ss0 W Ls [] br h → (tx Ls).length + (tx (brk W ind f bl ((y.drop s).take (e - s)))).length ≤ 16800 → (∀ h', TW g a40 st0 c40 ss0 W (Ls ++ brk W ind f bl ((y.drop s).take (e - s))) [] (br + bks W ind f bl ((y.drop s).take (e - s))) h' → Q none h') → wp (d + 3) 79 39 [some (.ref 131), some (.ref p), o2, some (.int (nI e)), some (.int (nI s)), some (.int (nI ind)), some (.int (nI bl)), o7] [] h Q := by
  have ly := Y.2.2.2
  have hs131 : sN ≤ 131 := by rw [sN5]; decide
  intro f
  induction f with
  | zero =>
    intro s bl br Ls h o7 hf hs hbl X hb K
    have e1 : ¬ nI s < nI e := nI_nlt (by omega) (by omega)
    simp only [k_79_39, k_79_41, k_79_42, e1, if_false, am_cat, am_kill, Value.category, List.map_cons, List.map_nil, List.sum_cons, List.sum_nil, Option.toList_some, Option.toList_none, List.cons_append, List.nil_append, List.length_cons, List.length_nil, List.getD_cons_succ, List.getD_cons_zero, List.set_cons_succ, List.set_cons_zero, Nat.reduceAdd, Nat.reduceLT, Nat.reduceLeDiff, Nat.zero_le, Nat.zero_add, Nat.add_zero]
    exact wb_last X Y hs he hbl (by omega) K
  | succ f ih =>
    intro s bl br Ls h o7 hf hs hbl X hb K
    have lr : ((y.drop s).take (e - s)).length = e - s := by rw [List.length_take, List.length_drop]; omega
    have fin : ∀ o7, (¬ W < bl + ((y.drop s).take (e - s)).length ∨ lc (okc W bl) ((y.drop s).take (e - s)) 0 0 false none = none) → wp (d + 3) 79 138 [some (.ref 131), some (.ref p), o2, some (.int (nI e)), some (.int (nI s)), some (.int (nI ind)), some (.int (nI bl)), o7] [] h Q := by
      intro o7 hc
      rw [brk_b hc, bks_b hc] at K
      exact wb_last X Y hs he hbl (by omega) K
    by_cases c1 : s < e
    · have e1 : nI s < nI e := nI_lt c1 (by omega)
      have e2 : nI bl + nI e - nI s = nI (bl + e - s) := by rw [nI_add, nI_sub2 (by omega)]
      have e0 : (0 : Nat) < 7 := by decide
      have e01 : (1 : Nat) < 7 := by decide
      have e6 : (6 : Nat) < 7 := by decide
      simp only [k_79_39, k_79_41, k_79_42, k_79_45, k_79_47, k_79_48, k_79_49, k_79_51, k_79_52, k_79_52N, k_79_56, k_79_53, e1, if_true, e2, X.og, X.f0, e0, am_cat, am_kill, Value.category, List.map_cons, List.map_nil, List.sum_cons, List.sum_nil, Option.toList_some, Option.toList_none, List.cons_append, List.nil_append, List.length_cons, List.length_nil, List.getD_cons_succ, List.getD_cons_zero, List.set_cons_succ, List.set_cons_zero, Nat.reduceAdd, Nat.reduceLT, Nat.reduceLeDiff, Nat.zero_le, Nat.zero_add, Nat.add_zero]
      by_cases c2 : W < bl + (e - s)
      · have e3 : nI W < nI (bl + e - s) := nI_lt (by omega) (by omega)
        have e4 : nI W - nI bl = nI (W - bl) := nI_sub2 (by omega)
        have zz := lc_zero (W := W) (bl := bl) ((y.drop s).take (e - s)) 0 0 false none (fun _ => rfl)
        simp only [k_79_59, k_79_59N, k_79_60, k_79_62, k_79_63, k_79_63N, k_79_67, k_79_69, k_79_64, k_79_70, e3, if_true, X.og, X.f0, e0, e4, sp_lastComma (X.bdy Y) he c1 (show y.length < 2 ^ 20 by omega) (show W - bl < 2 ^ 20 by omega), am_cat, am_kill, Value.category, List.map_cons, List.map_nil, List.sum_cons, List.sum_nil, Option.toList_some, Option.toList_none, List.cons_append, List.nil_append, List.length_cons, List.length_nil, List.getD_cons_succ, List.getD_cons_zero, List.set_cons_succ, List.set_cons_zero, Nat.reduceAdd, Nat.reduceLT, Nat.reduceLeDiff, Nat.zero_le, Nat.zero_add, Nat.add_zero]
        simp only [k_79_73, k_79_75, k_79_77, k_79_79, am_kill, am_cat, am_kill, Value.category, List.map_cons, List.map_nil, List.sum_cons, List.sum_nil, Option.toList_some, Option.toList_none, List.cons_append, List.nil_append, List.length_cons, List.length_nil, List.getD_cons_succ, List.getD_cons_zero, List.set_cons_succ, List.set_cons_zero, Nat.reduceAdd, Nat.reduceLT, Nat.reduceLeDiff, Nat.zero_le, Nat.zero_add, Nat.add_zero]
        cases hx : lc (okr (W - bl)) ((y.drop s).take (e - s)) 0 0 false none with
        | none =>
          rw [hx] at zz
          have e5 : ¬ nI s < bI s none := fun z => by
            have z : nI s < -1 := z
            have := nI_pos (show s < 2 ^ 31 by omega)
            exact absurd (Int32.lt_trans z (by decide)) this
          rw [if_neg e5]
          simp only [k_79_82, am_cat, am_kill, Value.category, List.map_cons, List.map_nil, List.sum_cons, List.sum_nil, Option.toList_some, Option.toList_none, List.cons_append, List.nil_append, List.length_cons, List.length_nil, List.getD_cons_succ, List.getD_cons_zero, List.set_cons_succ, List.set_cons_zero, Nat.reduceAdd, Nat.reduceLT, Nat.reduceLeDiff, Nat.zero_le, Nat.zero_add, Nat.add_zero]
          exact fin _ (Or.inr zz)
        | some i =>
          rw [hx] at zz
          cases i with
          | zero =>
            have e5 : ¬ nI s < bI s (some 0) := nI_nlt (Nat.le_refl _) (by omega)
            rw [if_neg e5]
            simp only [k_79_82, am_cat, am_kill, Value.category, List.map_cons, List.map_nil, List.sum_cons, List.sum_nil, Option.toList_some, Option.toList_none, List.cons_append, List.nil_append, List.length_cons, List.length_nil, List.getD_cons_succ, List.getD_cons_zero, List.set_cons_succ, List.set_cons_zero, Nat.reduceAdd, Nat.reduceLT, Nat.reduceLeDiff, Nat.zero_le, Nat.zero_add, Nat.add_zero]
            exact fin _ (Or.inr zz)
          | succ i =>
            have zz : lc (okc W bl) ((y.drop s).take (e - s)) 0 0 false none = some (i + 1) := by
              rw [show nz none = none from rfl] at zz
              rw [zz]
              unfold nz
              rw [if_neg (fun z => by cases z)]
            have r2 := (lc_rng zz).2
            rw [lr] at r2
            have c2' : W < bl + ((y.drop s).take (e - s)).length := by rw [lr]; exact c2
            have e5 : nI s < bI s (some (i + 1)) := nI_lt (by omega) (by omega)
            have e7 : bI s (some (i + 1)) = nI (s + (i + 1)) := rfl
            rw [brk_c c2' zz, seg_take (by omega), seg_drop] at K hb
            rw [bks_c c2' zz, seg_drop] at K
            rw [tx_cons] at hb
            rw [if_pos e5, e7]
            simp only [k_79_85, k_79_85N, k_79_89, k_79_86, k_79_91, X.og, X.f1, X.ov, e01, am_cat, am_kill, Value.category, List.map_cons, List.map_nil, List.sum_cons, List.sum_nil, Option.toList_some, Option.toList_none, List.cons_append, List.nil_append, List.length_cons, List.length_nil, List.getD_cons_succ, List.getD_cons_zero, List.set_cons_succ, List.set_cons_zero, Nat.reduceAdd, Nat.reduceLT, Nat.reduceLeDiff, Nat.zero_le, Nat.zero_add, Nat.add_zero]
            refine tw_bl X (by rw [List.append_nil]; omega) (fun h1 X1 => ?_)
            rw [List.nil_append] at X1
            simp only [k_79_94, k_79_94N, k_79_98, k_79_98N, k_79_99, k_79_101, k_79_103, k_79_104, k_79_95, k_79_105, X1.og, X1.f1, X1.ov, e01, nI_1, am_cat, am_kill, Value.category, List.map_cons, List.map_nil, List.sum_cons, List.sum_nil, Option.toList_some, Option.toList_none, List.cons_append, List.nil_append, List.length_cons, List.length_nil, List.getD_cons_succ, List.getD_cons_zero, List.set_cons_succ, List.set_cons_zero, Nat.reduceAdd, Nat.reduceLT, Nat.reduceLeDiff, Nat.zero_le, Nat.zero_add, Nat.add_zero]
            refine tw_putr X1 Y.1 Y.2.1 Y.2.2.1 (by omega) (by omega) (by rw [List.length_append, rp_len]; omega) (fun h2 X2 => ?_)
            rw [show s + (i + 1) + 1 - s = i + 1 + 1 by omega] at X2
            simp only [k_79_108, k_79_108N, k_79_109, X2.ot, am_cat, am_kill, Value.category, List.map_cons, List.map_nil, List.sum_cons, List.sum_nil, Option.toList_some, Option.toList_none, List.cons_append, List.nil_append, List.length_cons, List.length_nil, List.getD_cons_succ, List.getD_cons_zero, List.set_cons_succ, List.set_cons_zero, Nat.reduceAdd, Nat.reduceLT, Nat.reduceLeDiff, Nat.zero_le, Nat.zero_add, Nat.add_zero]
            refine tw_end X2 (by rw [List.length_append, List.length_append, rp_len, List.length_take]; omega) (fun h3 X3 => ?_)
            obtain ⟨x6, X4⟩ := X3.inc
            simp only [k_79_112, k_79_112N, k_79_113, k_79_113i, k_79_117, k_79_118, k_79_114, k_79_119, X3.og, x6, e6, hs131, nI_1, am_cat, am_kill, Value.category, List.map_cons, List.map_nil, List.sum_cons, List.sum_nil, Option.toList_some, Option.toList_none, List.cons_append, List.nil_append, List.length_cons, List.length_nil, List.getD_cons_succ, List.getD_cons_zero, List.set_cons_succ, List.set_cons_zero, Nat.reduceAdd, Nat.reduceLT, Nat.reduceLeDiff, Nat.zero_le, Nat.zero_add, Nat.add_zero]
            have e8 : nI (s + (i + 1)) + 2 = nI (s + (i + 1 + 2)) := by rw [show (2 : Int32) = nI 2 from rfl, nI_add, Nat.add_assoc s]
            have e9 : nI ind + 8 = nI (ind + 8) := by rw [show (8 : Int32) = nI 8 from rfl, nI_add]
            simp only [k_79_122, k_79_124, k_79_125, k_79_126, k_79_128, k_79_130, k_79_132, k_79_133, k_79_135, am_kill, e8, e9, am_cat, am_kill, Value.category, List.map_cons, List.map_nil, List.sum_cons, List.sum_nil, Option.toList_some, Option.toList_none, List.cons_append, List.nil_append, List.length_cons, List.length_nil, List.getD_cons_succ, List.getD_cons_zero, List.set_cons_succ, List.set_cons_zero, Nat.reduceAdd, Nat.reduceLT, Nat.reduceLeDiff, Nat.zero_le, Nat.zero_add, Nat.add_zero]
            refine ih (s + (i + 1 + 2)) (ind + 8) (br + 1) _ _ _ (by omega) (by omega) (by omega) X4 (by rw [tx_app, List.length_append, List.length_append]; show _ + (_ + 1) + _ ≤ _; omega) (fun h5 X5 => K h5 ?_)
            rw [List.append_assoc, show br + 1 + bks W ind f (ind + 8) ((y.drop (s + (i + 1 + 2))).take (e - (s + (i + 1 + 2)))) = br + (bks W ind f (ind + 8) ((y.drop (s + (i + 1 + 2))).take (e - (s + (i + 1 + 2)))) + 1) by omega] at X5
            exact X5
      · have e3 : ¬ nI W < nI (bl + e - s) := nI_nlt (by omega) (by omega)
        rw [if_neg e3]
        exact fin _ (Or.inl (by rw [lr]; exact c2))
    · have e1 : ¬ nI s < nI e := nI_nlt (by omega) (by omega)
      simp only [k_79_39, k_79_41, k_79_42, e1, if_false, am_cat, am_kill, Value.category, List.map_cons, List.map_nil, List.sum_cons, List.sum_nil, Option.toList_some, Option.toList_none, List.cons_append, List.nil_append, List.length_cons, List.length_nil, List.getD_cons_succ, List.getD_cons_zero, List.set_cons_succ, List.set_cons_zero, Nat.reduceAdd, Nat.reduceLT, Nat.reduceLeDiff, Nat.zero_le, Nat.zero_add, Nat.add_zero]
      exact fin _ (Or.inl (by rw [lr]; omega))
theorem wb_lead {f : Nat} {o5 o6 o7 : Option Value} (H : Chs h p q y cy) (he : e ≤ y.length) (ly : y.length ≤ 300) : ∀ (l : List Int32) (k : Nat), k ≤ e → (y.drop k).take (e - k) = l → (wp (d + 1) 79 3 [some (.ref 131), some (.ref p), some (.int (nI f)), some (.int (nI e)), some (.int (nI k)), o5, o6, o7] [] h Q ↔ wp (d + 1) 79 26 [some (.ref 131), some (.ref p), some (.int (nI f)), some (.int (nI e)), some (.int (nI (k + lb l))), o5, o6, o7] [] h Q) := by
  intro l
  induction l with
  | nil =>
    intro k hk hseg
    have hlen := congrArg List.length hseg
    rw [List.length_take, List.length_drop, List.length_nil] at hlen
    have e1 : ¬ nI k < nI e := nI_nlt (by omega) (by omega)
    simp only [k_79_3, k_79_5, k_79_6, e1, if_false, am_cat, am_kill, Value.category, List.map_cons, List.map_nil, List.sum_cons, List.sum_nil, Option.toList_some, Option.toList_none, List.cons_append, List.nil_append, List.length_cons, List.length_nil, List.getD_cons_succ, List.getD_cons_zero, List.set_cons_succ, List.set_cons_zero, Nat.reduceAdd, Nat.reduceLT, Nat.reduceLeDiff, Nat.zero_le, Nat.zero_add, Nat.add_zero]
    rfl
  | cons c l ih =>
    intro k hk hseg
    obtain ⟨x1, x2, x3⟩ := seg_cons hseg
    have e1 : nI k < nI e := nI_lt x1 (by omega)
    simp only [k_79_3, k_79_5, k_79_6, k_79_9, k_79_9N, k_79_10, k_79_12, e1, if_true, okV_iff H.1, sp_get2 H x2 (by omega), am_cat, am_kill, Value.category, List.map_cons, List.map_nil, List.sum_cons, List.sum_nil, Option.toList_some, Option.toList_none, List.cons_append, List.nil_append, List.length_cons, List.length_nil, List.getD_cons_succ, List.getD_cons_zero, List.set_cons_succ, List.set_cons_zero, Nat.reduceAdd, Nat.reduceLT, Nat.reduceLeDiff, Nat.zero_le, Nat.zero_add, Nat.add_zero]
    simp only [k_79_15, k_79_17, am_cat, am_kill, Value.category, List.map_cons, List.map_nil, List.sum_cons, List.sum_nil, Option.toList_some, Option.toList_none, List.cons_append, List.nil_append, List.length_cons, List.length_nil, List.getD_cons_succ, List.getD_cons_zero, List.set_cons_succ, List.set_cons_zero, Nat.reduceAdd, Nat.reduceLT, Nat.reduceLeDiff, Nat.zero_le, Nat.zero_add, Nat.add_zero]
    by_cases c1 : c = 32
    · rw [if_pos c1]
      have e2 : k + lb (c :: l) = k + 1 + lb l := by
        show k + (if c = 32 then lb l + 1 else 0) = _
        rw [if_pos c1]
        omega
      rw [e2]
      simp only [k_79_20, k_79_23, am_kill, nI_1, am_cat, am_kill, Value.category, List.map_cons, List.map_nil, List.sum_cons, List.sum_nil, Option.toList_some, Option.toList_none, List.cons_append, List.nil_append, List.length_cons, List.length_nil, List.getD_cons_succ, List.getD_cons_zero, List.set_cons_succ, List.set_cons_zero, Nat.reduceAdd, Nat.reduceLT, Nat.reduceLeDiff, Nat.zero_le, Nat.zero_add, Nat.add_zero]
      exact ih (k + 1) (by omega) x3
    · rw [if_neg c1]
      have e2 : k + lb (c :: l) = k := by
        show k + (if c = 32 then lb l + 1 else 0) = _
        rw [if_neg c1]
        omega
      rw [e2]
theorem tw_broken {f : Nat} (X : TW g a40 st0 c40 ss0 W Ls [] br h) (Y : Bdy g a40 st0 p q y cy) (hf : f ≤ e) (he : e ≤ y.length) (hW : 40 ≤ W) (hW2 : W ≤ 120) (hl : lb ((y.drop f).take (e - f)) ≤ 4) (hb : (tx Ls).length + (tx (bkL W ((y.drop f).take (e - f)))).length ≤ 16800) (K : ∀ h', TW g a40 st0 c40 ss0 W (Ls ++ bkL W ((y.drop f).take (e - f))) [] (br + ((bkL W ((y.drop f).take (e - f))).length - 1)) h' → Q none h') : wp (d + 3) 79 0 [some (.ref 131), some (.ref p), some (.int (nI f)), some (.int (nI e)), none, none, none, none] [] h Q := by
  have ly := Y.2.2.2
  simp only [k_79_0, k_79_1, am_kill, am_cat, am_kill, Value.category, List.map_cons, List.map_nil, List.sum_cons, List.sum_nil, Option.toList_some, Option.toList_none, List.cons_append, List.nil_append, List.length_cons, List.length_nil, List.getD_cons_succ, List.getD_cons_zero, List.set_cons_succ, List.set_cons_zero, Nat.reduceAdd, Nat.reduceLT, Nat.reduceLeDiff, Nat.zero_le, Nat.zero_add, Nat.add_zero]
  rw [wb_lead (X.bdy Y) he ly _ f hf rfl]
  have hle : lb ((y.drop f).take (e - f)) ≤ e - f := by
    have := lb_le ((y.drop f).take (e - f))
    rw [List.length_take, List.length_drop] at this
    omega
  unfold bkL at hb K
  rw [seg_drop] at hb K
  generalize lb ((y.drop f).take (e - f)) = m at hl hb K hle
  have e1 : (8 : Int32) + nI (f + m) - nI f = nI (8 + m) := by
    rw [show (8 : Int32) = nI 8 from rfl, nI_add, nI_sub2 (by omega)]
    congr 1
    omega
  simp only [k_79_26, k_79_28, k_79_30, k_79_31, k_79_32, k_79_33, k_79_35, k_79_37, am_kill, e1, am_cat, am_kill, Value.category, List.map_cons, List.map_nil, List.sum_cons, List.sum_nil, Option.toList_some, Option.toList_none, List.cons_append, List.nil_append, List.length_cons, List.length_nil, List.getD_cons_succ, List.getD_cons_zero, List.set_cons_succ, List.set_cons_zero, Nat.reduceAdd, Nat.reduceLT, Nat.reduceLeDiff, Nat.zero_le, Nat.zero_add, Nat.add_zero]
  exact wb_loop Y he (by omega) hW hW2 100 (f + m) (8 + m) br Ls h none (by omega) (by omega) (by omega) X hb K
theorem wd_loop (Y : Bdy g a40 st0 p q y cy) (hW : 40 ≤ W) (hW2 : W ≤ 120) : ∀ (r : List Int32) (f i br : Nat) (acc : List Int32) (Ls : List (List Int32)) (h : AH), f ≤ i → i ≤ y.length → y.drop i = r → (y.drop f).take (i - f) = acc → TW g a40 st0 c40 ss0 W Ls [] br h → (∀ l ∈ lnz acc r, lb l ≤ 4) → (tx Ls).length + (tx (bodyE W (lnz acc r))).length ≤ 16800 → (∀ h', TW g a40 st0 c40 ss0 W (Ls ++ bodyE W (lnz acc r)) [] (br + brkN W (lnz acc r)) h' → Q none h') → wp (d + 4) 78 4 [some (.ref 131), some (.ref p), some (.int (nI f)), some (.int (nI i))] [] h Q := by
  have ly := Y.2.2.2
  intro r
  induction r with
  | nil =>
    intro f i br acc Ls h hf hi hr ha X hL hb K
    have hlen := congrArg List.length hr
    rw [List.length_drop, List.length_nil] at hlen
    have e1 : ¬ nI i < nI y.length := nI_nlt (by omega) (by omega)
    simp only [k_78_4, k_78_5, k_78_5N, k_78_6, okV_iff (X.bdy Y).1, sp_len (X.bdy Y), am_cat, am_kill, Value.category, List.map_cons, List.map_nil, List.sum_cons, List.sum_nil, Option.toList_some, Option.toList_none, List.cons_append, List.nil_append, List.length_cons, List.length_nil, List.getD_cons_succ, List.getD_cons_zero, List.set_cons_succ, List.set_cons_zero, Nat.reduceAdd, Nat.reduceLT, Nat.reduceLeDiff, Nat.zero_le, Nat.zero_add, Nat.add_zero]
    simp only [k_78_9, k_78_39, e1, if_false, am_cat, am_kill, Value.category, List.map_cons, List.map_nil, List.sum_cons, List.sum_nil, Option.toList_some, Option.toList_none, List.cons_append, List.nil_append, List.length_cons, List.length_nil, List.getD_cons_succ, List.getD_cons_zero, List.set_cons_succ, List.set_cons_zero, Nat.reduceAdd, Nat.reduceLT, Nat.reduceLeDiff, Nat.zero_le, Nat.zero_add, Nat.add_zero]
    refine K h ?_
    show TW g a40 st0 c40 ss0 W (Ls ++ []) [] br h
    rw [List.append_nil]
    exact X
  | cons c r ih =>
    intro f i br acc Ls h hf hi hr ha X hL hb K
    have hlen := congrArg List.length hr
    rw [List.length_drop, List.length_cons] at hlen
    have hil : i < y.length := by omega
    rw [List.drop_eq_getElem_cons hil] at hr
    injection hr with hc hr
    have gi : y[i]? = some c := by rw [List.getElem?_eq_getElem hil, hc]
    have e1 : nI i < nI y.length := nI_lt hil (by omega)
    simp only [k_78_4, k_78_5, k_78_5N, k_78_6, okV_iff (X.bdy Y).1, sp_len (X.bdy Y), am_cat, am_kill, Value.category, List.map_cons, List.map_nil, List.sum_cons, List.sum_nil, Option.toList_some, Option.toList_none, List.cons_append, List.nil_append, List.length_cons, List.length_nil, List.getD_cons_succ, List.getD_cons_zero, List.set_cons_succ, List.set_cons_zero, Nat.reduceAdd, Nat.reduceLT, Nat.reduceLeDiff, Nat.zero_le, Nat.zero_add, Nat.add_zero]
    simp only [k_78_9, k_78_12, k_78_12N, k_78_13, k_78_14, e1, if_true, okV_iff (X.bdy Y).1, sp_get2 (X.bdy Y) gi (by omega), am_cat, am_kill, Value.category, List.map_cons, List.map_nil, List.sum_cons, List.sum_nil, Option.toList_some, Option.toList_none, List.cons_append, List.nil_append, List.length_cons, List.length_nil, List.getD_cons_succ, List.getD_cons_zero, List.set_cons_succ, List.set_cons_zero, Nat.reduceAdd, Nat.reduceLT, Nat.reduceLeDiff, Nat.zero_le, Nat.zero_add, Nat.add_zero]
    simp only [k_78_17, k_78_19, am_cat, am_kill, Value.category, List.map_cons, List.map_nil, List.sum_cons, List.sum_nil, Option.toList_some, Option.toList_none, List.cons_append, List.nil_append, List.length_cons, List.length_nil, List.getD_cons_succ, List.getD_cons_zero, List.set_cons_succ, List.set_cons_zero, Nat.reduceAdd, Nat.reduceLT, Nat.reduceLeDiff, Nat.zero_le, Nat.zero_add, Nat.add_zero]
    by_cases c1 : c = 10
    · have el : lnz acc (c :: r) = acc :: lnz [] r := by
        show (if c = 10 then acc :: lnz [] r else lnz (acc ++ [c]) r) = _
        rw [if_pos c1]
      rw [el] at hL hb K
      have eb : bodyE W (acc :: lnz [] r) = bkL W acc ++ bodyE W (lnz [] r) := rfl
      have en : brkN W (acc :: lnz [] r) = ((bkL W acc).length - 1) + brkN W (lnz [] r) := rfl
      rw [eb, tx_app2, List.length_append] at hb
      rw [eb, en] at K
      rw [if_pos c1]
      simp only [k_78_22, k_78_22N, k_78_23, k_78_23N, k_78_24, k_78_25, k_78_26, X.ot, am_cat, am_kill, Value.category, List.map_cons, List.map_nil, List.sum_cons, List.sum_nil, Option.toList_some, Option.toList_none, List.cons_append, List.nil_append, List.length_cons, List.length_nil, List.getD_cons_succ, List.getD_cons_zero, List.set_cons_succ, List.set_cons_zero, Nat.reduceAdd, Nat.reduceLT, Nat.reduceLeDiff, Nat.zero_le, Nat.zero_add, Nat.add_zero]
      have la := hL acc List.mem_cons_self
      rw [← ha] at la hb K
      refine tw_broken X Y hf (by omega) hW hW2 la (by omega) (fun h1 X1 => ?_)
      simp only [k_78_29, k_78_30, k_78_31, k_78_32, k_78_33, k_78_36, am_kill, nI_1, am_cat, am_kill, Value.category, List.map_cons, List.map_nil, List.sum_cons, List.sum_nil, Option.toList_some, Option.toList_none, List.cons_append, List.nil_append, List.length_cons, List.length_nil, List.getD_cons_succ, List.getD_cons_zero, List.set_cons_succ, List.set_cons_zero, Nat.reduceAdd, Nat.reduceLT, Nat.reduceLeDiff, Nat.zero_le, Nat.zero_add, Nat.add_zero]
      refine ih (i + 1) (i + 1) _ [] _ h1 (Nat.le_refl _) (by omega) hr (by rw [Nat.sub_self, List.take_zero]) X1 (fun l hl => hL l (List.mem_cons_of_mem _ hl)) (by rw [tx_app2, List.length_append]; omega) (fun h2 X2 => K h2 ?_)
      rw [← List.append_assoc, ← Nat.add_assoc]
      exact X2
    · have el : lnz acc (c :: r) = lnz (acc ++ [c]) r := by
        show (if c = 10 then acc :: lnz [] r else lnz (acc ++ [c]) r) = _
        rw [if_neg c1]
      rw [el] at hL hb K
      rw [if_neg c1]
      simp only [k_78_33, k_78_36, am_kill, nI_1, am_cat, am_kill, Value.category, List.map_cons, List.map_nil, List.sum_cons, List.sum_nil, Option.toList_some, Option.toList_none, List.cons_append, List.nil_append, List.length_cons, List.length_nil, List.getD_cons_succ, List.getD_cons_zero, List.set_cons_succ, List.set_cons_zero, Nat.reduceAdd, Nat.reduceLT, Nat.reduceLeDiff, Nat.zero_le, Nat.zero_add, Nat.add_zero]
      refine ih f (i + 1) br (acc ++ [c]) Ls h (by omega) (by omega) hr ?_ X hL hb K
      rw [show i + 1 - f = i - f + 1 by omega, List.take_add_one, ha, List.getElem?_drop, show f + (i - f) = i by omega, gi]
      rfl
theorem tw_body (X : TW g a40 st0 c40 ss0 W Ls [] br h) (Y : Bdy g a40 st0 p q y cy) (hW : 40 ≤ W) (hW2 : W ≤ 120) (hL : ∀ l ∈ lnz [] y, lb l ≤ 4) (hb : (tx Ls).length + (tx (bodyE W (lnz [] y))).length ≤ 16800) (K : ∀ h', TW g a40 st0 c40 ss0 W (Ls ++ bodyE W (lnz [] y)) [] (br + brkN W (lnz [] y)) h' → Q none h') : wp (d + 4) 78 0 [some (.ref 131), some (.ref p), none, none] [] h Q := by
  simp only [k_78_0, k_78_1, k_78_2, k_78_3, am_kill, am_cat, am_kill, Value.category, List.map_cons, List.map_nil, List.sum_cons, List.sum_nil, Option.toList_some, Option.toList_none, List.cons_append, List.nil_append, List.length_cons, List.length_nil, List.getD_cons_succ, List.getD_cons_zero, List.set_cons_succ, List.set_cons_zero, Nat.reduceAdd, Nat.reduceLT, Nat.reduceLeDiff, Nat.zero_le, Nat.zero_add, Nat.add_zero]
  exact wd_loop Y hW hW2 y 0 0 br [] Ls h (Nat.le_refl _) (Nat.zero_le _) rfl rfl X hL hb K
end WB
