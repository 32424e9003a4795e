/-! THE PROGRAM'S SMALL CALLS -/
theorem sp_put_fit2 {d : Nat} {h : AH} {a ar : Nat} {t : List Int32} {cs : List Value} {c : Int32} {o : Option Value} {Q : Option Value → AH → Prop} (H : Chs h a ar t cs) (hc : chr c) (hl : t.length < cs.length) (K : ∀ h' cs', Chs h' a ar (t ++ [c]) cs' → cs'.length = cs.length → am_sz h' = am_sz h → h'.length = h.length → Fr (fun b => b = a ∨ b = ar) h h' → Q none h') : wp d 11 0 [some (.ref a), some (.int c), o] [] h Q := by
  rw [sp_put_fit H hc hl]
  obtain ⟨p1, p2⟩ := H.putd hc hl
  exact K _ _ p1 (List.length_set ..) p2 (by rw [List.length_set, List.length_set]) (Fr.tr (Fr.set.mono (fun b _ z => Or.inr z)) Fr.set (fun b _ z => Or.inl z))
theorem sp_empty2 {d : Nat} {h : AH} {a ar : Nat} {t : List Int32} {cs : List Value} {Q : Option Value → AH → Prop} (H : Chs h a ar t cs) (K : ∀ h', Chs h' a ar [] cs → am_sz h' = am_sz h → h'.length = h.length → Fr (fun b => b = a) h h' → Q none h') : wp d 18 0 [some (.ref a)] [] h Q := by
  rw [sp_empty H]
  obtain ⟨p1, p2⟩ := H.emptied
  exact K _ p1 p2 (by rw [List.length_set]) Fr.set
theorem Fm.rf {h : AH} : Fm h h := ⟨Nat.le_refl _, fun _ _ _ => rfl⟩
theorem kn_c : ¬ kpt (.inr 1) := by simp [kpt]
theorem kn_a : ¬ kpt (.inl .char) := by simp [kpt]
theorem kn_i : ¬ kpt (.inl .int) := by simp [kpt]
theorem kn_t : ¬ kpt (.inr 0) := by simp [kpt]
theorem kn_d : ¬ kpt (.inr 5) := by simp [kpt]
theorem kn_s : ¬ kpt (.inr 6) := by simp [kpt]
theorem kn_x : ¬ kpt (.inr 7) := by simp [kpt]
theorem kn_r : ¬ kpt (.inl (.object "TestEmitter$TypeRow")) := by simp [kpt]
theorem kn_o : ¬ kpt (.inl (.object "TestEmitter$Chars")) := by simp [kpt]
theorem sN5 : sN = 105 := by decide +kernel
section CO
variable {B k d : Nat} {h : AH} {s : St} {Q : Option Value → AH → Prop}
theorem co_type {x : Int32} (C : CI B s k h) (K : ∀ h', CI B (oType x s).1 (k + 1) h' → Fm h h' → Q (some (.int (oType x s).2)) h') : wp (d + 1) 9 0 [some (.ref 105), some (.int x)] [] h Q := by
  obtain ⟨W, L, R, τ, D, T, tk, Ls, br⟩ := s
  have C1 := C.up (Nat.le_succ k)
  obtain ⟨ra, rt, a1, a2, a3, a4, st, u, c0, c1, c2, c3, c4, vs, ss, q1, ⟨H, hc0⟩, q3, q4, q5, q6, q7, q8, q9⟩ := C
  have hl40 : L.length ≤ 40 := by rw [← hc0]; exact H.2.2.1
  have X : h[105]? = some (.inr 0, [.ref 106, .ref ra, .ref rt, .ref 111, .ref 123, .ref 125, .ref 127, .ref 129, .ref 131, .int tk]) := q1
  unfold oType at K
  dsimp only at K
  by_cases z1 : x < 0
  · rw [if_pos (Or.inl z1)] at K
    simp only [k_9_0, k_9_1, k_9_10, k_9_11, z1, if_true, am_cat, am_kill, Value.category, List.map_cons, List.map_nil, List.sum_cons, List.sum_nil, Option.toList_some, Option.toList_none, List.cons_append, List.nil_append, List.length_cons, List.length_nil, List.getD_cons_succ, List.getD_cons_zero, List.set_cons_succ, List.set_cons_zero, Nat.reduceAdd, Nat.reduceLT, Nat.reduceLeDiff, Nat.zero_le, Nat.zero_add, Nat.add_zero]
    exact K h C1 Fm.rf
  by_cases z2 : 127 < x
  · rw [if_pos (Or.inr z2)] at K
    simp only [k_9_0, k_9_1, k_9_4, k_9_5, k_9_7, k_9_10, k_9_11, z1, z2, if_true, if_false, am_cat, am_kill, Value.category, List.map_cons, List.map_nil, List.sum_cons, List.sum_nil, Option.toList_some, Option.toList_none, List.cons_append, List.nil_append, List.length_cons, List.length_nil, List.getD_cons_succ, List.getD_cons_zero, List.set_cons_succ, List.set_cons_zero, Nat.reduceAdd, Nat.reduceLT, Nat.reduceLeDiff, Nat.zero_le, Nat.zero_add, Nat.add_zero]
    exact K h C1 Fm.rf
  rw [if_neg (fun z => z.elim z1 z2)] at K
  have e1 : (nI L.length < 40) ↔ L.length < 40 := nI_ltI (b := 40) (by omega) (by omega)
  simp only [k_9_0, k_9_1, k_9_4, k_9_5, k_9_7, k_9_12, k_9_12N, k_9_13, k_9_16, okG_iff X, fld_of X, okV_iff H.1, sp_len H, z1, z2, if_false, am_cat, am_kill, Value.category, List.map_cons, List.map_nil, List.sum_cons, List.sum_nil, Option.toList_some, Option.toList_none, List.cons_append, List.nil_append, List.length_cons, List.length_nil, List.getD_cons_succ, List.getD_cons_zero, List.set_cons_succ, List.set_cons_zero, Nat.reduceAdd, Nat.reduceLT, Nat.reduceLeDiff, Nat.zero_le, Nat.zero_add, Nat.add_zero]
  by_cases z3 : L.length = 40
  · rw [if_pos z3] at K
    simp only [k_9_19, k_9_21, k_9_24, k_9_26, e1, show ¬ L.length < 40 by omega, if_false, am_cat, am_kill, Value.category, List.map_cons, List.map_nil, List.sum_cons, List.sum_nil, Option.toList_some, Option.toList_none, List.cons_append, List.nil_append, List.length_cons, List.length_nil, List.getD_cons_succ, List.getD_cons_zero, List.set_cons_succ, List.set_cons_zero, Nat.reduceAdd, Nat.reduceLT, Nat.reduceLeDiff, Nat.zero_le, Nat.zero_add, Nat.add_zero]
    exact K h C1 Fm.rf
  · rw [if_neg z3] at K
    simp only [k_9_19, k_9_21, e1, show L.length < 40 by omega, if_true, am_cat, am_kill, Value.category, List.map_cons, List.map_nil, List.sum_cons, List.sum_nil, Option.toList_some, Option.toList_none, List.cons_append, List.nil_append, List.length_cons, List.length_nil, List.getD_cons_succ, List.getD_cons_zero, List.set_cons_succ, List.set_cons_zero, Nat.reduceAdd, Nat.reduceLT, Nat.reduceLeDiff, Nat.zero_le, Nat.zero_add, Nat.add_zero]
    simp only [k_9_27, k_9_27N, k_9_31, k_9_28, k_9_32, okG_iff X, fld_of X, okV_iff H.1, am_cat, am_kill, Value.category, List.map_cons, List.map_nil, List.sum_cons, List.sum_nil, Option.toList_some, Option.toList_none, List.cons_append, List.nil_append, List.length_cons, List.length_nil, List.getD_cons_succ, List.getD_cons_zero, List.set_cons_succ, List.set_cons_zero, Nat.reduceAdd, Nat.reduceLT, Nat.reduceLeDiff, Nat.zero_le, Nat.zero_add, Nat.add_zero]
    refine sp_put_fit2 H (asc_chr (asc_of z1 z2)) (by omega) (fun h' c0' H' hl hz hh F => ?_)
    have X' := F.get X (by omega)
    simp only [k_9_35, k_9_35N, k_9_42, k_9_36, k_9_39, okG_iff X', fld_of X', okV_iff H'.1, sp_len H', am_cat, am_kill, Value.category, List.map_cons, List.map_nil, List.sum_cons, List.sum_nil, Option.toList_some, Option.toList_none, List.cons_append, List.nil_append, List.length_cons, List.length_nil, List.getD_cons_succ, List.getD_cons_zero, List.set_cons_succ, List.set_cons_zero, Nat.reduceAdd, Nat.reduceLT, Nat.reduceLeDiff, Nat.zero_le, Nat.zero_add, Nat.add_zero]
    rw [List.length_append]
    obtain ⟨d1, d2, d3, d4, d5, d6⟩ := id q8
    have kp := F.kp (fun b z => by
      have := sN5
      rcases z with rfl | rfl
      · exact ⟨by omega, _, H.1, kn_c⟩
      · exact ⟨by omega, _, H.2.1, kn_a⟩)
    refine K h' ⟨ra, rt, a1, a2, a3, a4, st, u, c0', c1, c2, c3, c4, vs, ss, X', ⟨H', by omega⟩, q3.fr F kp (by omega) (by omega), q4.fr F (by omega) (by omega), q5.fr F (by omega) (by omega) (by omega) (by omega) (by omega) (by omega), q6.fr F (by omega) (by omega) (fun b b1 b2 b3 => ⟨by omega, b3⟩), q7.fr F (by omega) (by omega) (by omega) (by omega), q8, q9.le (n := 0) (m := 0) (by omega) (by omega) (by omega) (by omega) (by omega)⟩ (F.fm (fun b z => by omega))
theorem co_takeRow {L : List Int32} {c0 : List Value} {ra rt : Nat} {tk : Int32} (X : X105 h ra rt tk) (H : Chs h 106 107 L c0) (S : Sta h) (hL : ∀ c ∈ L, asc c) (K : match rdRow 4 L with
      | none => ∀ h', Chs h' 106 107 [] c0 → Fr (fun b => b = 106) h h' → h'.length ≤ h.length + 6 → am_sz h' ≤ am_sz h + 18 → Q (some .null) h'
      | some l => ∀ h', Chs h' 106 107 [] c0 → Fr (fun b => b = 106) h h' → h'.length ≤ h.length + 6 → am_sz h' ≤ am_sz h + 18 → Row h' h.length (h.length + 1) l → Q (some (.ref h.length)) h') : wp (d + 7) 13 0 [some (.ref 105), none] [] h Q := by
  have X1 : h[105]? = some (.inr 0, [.ref 106, .ref ra, .ref rt, .ref 111, .ref 123, .ref 125, .ref 127, .ref 129, .ref 131, .int tk]) := X
  simp only [k_13_0, k_13_0N, k_13_1, k_13_4, okG_iff X1, fld_of X1, am_cat, am_kill, Value.category, List.map_cons, List.map_nil, List.sum_cons, List.sum_nil, Option.toList_some, Option.toList_none, List.cons_append, List.nil_append, List.length_cons, List.length_nil, List.getD_cons_succ, List.getD_cons_zero, List.set_cons_succ, List.set_cons_zero, Nat.reduceAdd, Nat.reduceLT, Nat.reduceLeDiff, Nat.zero_le, Nat.zero_add, Nat.add_zero]
  have h107 := lt_of_get H.2.1
  refine sp_rowread H hL (S.str 0 (by decide)) ?_
  cases hr : rdRow 4 L with
  | none =>
    rw [hr] at K
    intro g G
    have F := Fr.gr G
    have X2 := F.get X1 (fun z => z)
    have H2 := H.fr F (fun z => z) (fun z => z)
    simp only [k_13_7, k_13_7N, k_13_8, k_13_8N, k_13_9, k_13_12, okG_iff X2, fld_of X2, okV_iff H2.1, am_cat, am_kill, Value.category, List.map_cons, List.map_nil, List.sum_cons, List.sum_nil, Option.toList_some, Option.toList_none, List.cons_append, List.nil_append, List.length_cons, List.length_nil, List.getD_cons_succ, List.getD_cons_zero, List.set_cons_succ, List.set_cons_zero, Nat.reduceAdd, Nat.reduceLT, Nat.reduceLeDiff, Nat.zero_le, Nat.zero_add, Nat.add_zero]
    refine sp_empty2 H2 (fun h' H3 hz hh F2 => ?_)
    simp only [k_13_15, k_13_15N, k_13_16, k_13_16N, am_cat, am_kill, Value.category, List.map_cons, List.map_nil, List.sum_cons, List.sum_nil, Option.toList_some, Option.toList_none, List.cons_append, List.nil_append, List.length_cons, List.length_nil, List.getD_cons_succ, List.getD_cons_zero, List.set_cons_succ, List.set_cons_zero, Nat.reduceAdd, Nat.reduceLT, Nat.reduceLeDiff, Nat.zero_le, Nat.zero_add, Nat.add_zero]
    have := G.2.1
    have := G.2.2.1
    exact K h' H3 (Fr.tr (F.mono (fun b _ z => z.elim)) F2 (fun b _ z => z)) (by omega) (by omega)
  | some l =>
    rw [hr] at K
    intro g G RW
    have F := Fr.gr G
    have X2 := F.get X1 (fun z => z)
    have H2 := H.fr F (fun z => z) (fun z => z)
    simp only [k_13_7, k_13_7N, k_13_8, k_13_8N, k_13_9, k_13_12, okG_iff X2, fld_of X2, okV_iff H2.1, am_cat, am_kill, Value.category, List.map_cons, List.map_nil, List.sum_cons, List.sum_nil, Option.toList_some, Option.toList_none, List.cons_append, List.nil_append, List.length_cons, List.length_nil, List.getD_cons_succ, List.getD_cons_zero, List.set_cons_succ, List.set_cons_zero, Nat.reduceAdd, Nat.reduceLT, Nat.reduceLeDiff, Nat.zero_le, Nat.zero_add, Nat.add_zero]
    refine sp_empty2 H2 (fun h' H3 hz hh F2 => ?_)
    simp only [k_13_15, k_13_15N, k_13_16, k_13_16N, am_cat, am_kill, Value.category, List.map_cons, List.map_nil, List.sum_cons, List.sum_nil, Option.toList_some, Option.toList_none, List.cons_append, List.nil_append, List.length_cons, List.length_nil, List.getD_cons_succ, List.getD_cons_zero, List.set_cons_succ, List.set_cons_zero, Nat.reduceAdd, Nat.reduceLT, Nat.reduceLeDiff, Nat.zero_le, Nat.zero_add, Nat.add_zero]
    have := G.2.1
    have := G.2.2.1
    have kp := F2.kp (fun b z => by
      have := sN5
      rcases z with rfl
      exact ⟨by omega, _, H2.1, kn_c⟩)
    exact K h' H3 (Fr.tr (F.mono (fun b _ z => z.elim)) F2 (fun b _ z => z)) (by omega) (by omega) (RW.kp kp)
theorem En.set4 {R : List (List Ty)} {l : List Ty} (E : En h R) (h5 : R.length = 5) : En h (R.set 4 l) := by
  obtain ⟨q1, q2, rr, q3, q4, q5⟩ := E
  refine ⟨q1, q2, rr, q3, q4, fun k r hr => ?_⟩
  have : k < rr.length := (List.getElem?_eq_some_iff.mp hr).1
  rw [set_row (by omega), if_neg (by omega)]
  exact q5 k r hr
theorem co_parameters (I : SI s) (C : CI B s k h) (K : ∀ h', CI B (oRow 4 s).1 (k + 1) h' → Fm h h' → Q (some (.int (oRow 4 s).2)) h') : wp (d + 8) 21 0 [some (.ref 105), none] [] h Q := by
  obtain ⟨W, L, R, τ, D, T, tk, Ls, br⟩ := s
  obtain ⟨ra, rt, a1, a2, a3, a4, st, u, c0, c1, c2, c3, c4, vs, ss, q1, ⟨H, hc0⟩, q3, q4, q5, q6, q7, q8, q9⟩ := C
  have X : h[105]? = some (.inr 0, [.ref 106, .ref ra, .ref rt, .ref 111, .ref 123, .ref 125, .ref 127, .ref 129, .ref 131, .int tk]) := q1
  have h5 : R.length = 5 := I.2.2.1.1
  have hs : sN ≤ 105 := by decide
  unfold oRow at K
  dsimp only at K
  obtain ⟨d1, d2, d3, d4, d5, d6⟩ := id q8
  have hN := sN5
  simp only [k_21_0, k_21_0N, k_21_1, okV_iff X, am_cat, am_kill, Value.category, List.map_cons, List.map_nil, List.sum_cons, List.sum_nil, Option.toList_some, Option.toList_none, List.cons_append, List.nil_append, List.length_cons, List.length_nil, List.getD_cons_succ, List.getD_cons_zero, List.set_cons_succ, List.set_cons_zero, Nat.reduceAdd, Nat.reduceLT, Nat.reduceLeDiff, Nat.zero_le, Nat.zero_add, Nat.add_zero]
  refine co_takeRow q1 H q3.2.2.2.1 I.2.1.2 ?_
  cases hr : rdRow 4 L with
  | none =>
    rw [hr] at K
    intro h' H' F l1 l2
    have X' := F.get X (by omega)
    simp only [k_21_4, k_21_4N, k_21_5, k_21_5N, k_21_6, k_21_6N, k_21_9, k_21_11, am_cat, am_kill, Value.category, List.map_cons, List.map_nil, List.sum_cons, List.sum_nil, Option.toList_some, Option.toList_none, List.cons_append, List.nil_append, List.length_cons, List.length_nil, List.getD_cons_succ, List.getD_cons_zero, List.set_cons_succ, List.set_cons_zero, Nat.reduceAdd, Nat.reduceLT, Nat.reduceLeDiff, Nat.zero_le, Nat.zero_add, Nat.add_zero]
    have kp := F.kp (fun b z => by
      rcases z with rfl
      exact ⟨by omega, _, H.1, kn_c⟩)
    refine K h' ⟨ra, rt, a1, a2, a3, a4, st, u, c0, c1, c2, c3, c4, vs, ss, X', ⟨H', hc0⟩, q3.fr F kp (by omega) (by omega), q4.fr F (by omega) (by omega), q5.fr F (by omega) (by omega) (by omega) (by omega) (by omega) (by omega), q6.fr F (by omega) (by omega) (fun b b1 b2 b3 => ⟨by omega, b3⟩), q7.fr F (by omega) (by omega) (by omega) (by omega), q8, q9.le (n := 6) (m := 18) l1 l2 (by omega) (by omega) F.1⟩ (F.fm (fun b z => by omega))
  | some l =>
    rw [hr] at K
    intro h' H' F l1 l2 RW
    have X' := F.get X (by omega)
    have w1 : h'[h.length]? = some (.inr 2, [.ref (h.length + 1), .int (nI l.length)]) := by
      obtain ⟨_, r1, -⟩ := RW
      exact r1
    simp only [k_21_4, k_21_4N, k_21_5, k_21_5N, k_21_6, k_21_6N, k_21_12, k_21_12N, k_21_13, k_21_13N, k_21_14, okG_iff X', hput_of X', hs, am_cat, am_kill, Value.category, List.map_cons, List.map_nil, List.sum_cons, List.sum_nil, Option.toList_some, Option.toList_none, List.cons_append, List.nil_append, List.length_cons, List.length_nil, List.getD_cons_succ, List.getD_cons_zero, List.set_cons_succ, List.set_cons_zero, Nat.reduceAdd, Nat.reduceLT, Nat.reduceLeDiff, Nat.zero_le, Nat.zero_add, Nat.add_zero]
    have F2 : Fr (fun b => b = 105) h' (h'.set 105 (.inr 0, [.ref 106, .ref h.length, .ref rt, .ref 111, .ref 123, .ref 125, .ref 127, .ref 129, .ref 131, .int tk])) := Fr.set
    have X2 := get_set_eq (x := ((.inr 0, [.ref 106, .ref h.length, .ref rt, .ref 111, .ref 123, .ref 125, .ref 127, .ref 129, .ref 131, .int tk]) : AC)) X'
    have hz := sz_set (vs' := [.ref 106, .ref h.length, .ref rt, .ref 111, .ref 123, .ref 125, .ref 127, .ref 129, .ref 131, .int tk]) X' rfl
    have hl : (h'.set 105 (.inr 0, [.ref 106, .ref h.length, .ref rt, .ref 111, .ref 123, .ref 125, .ref 127, .ref 129, .ref 131, .int tk])).length = h'.length := List.length_set ..
    generalize h'.set 105 (.inr 0, [.ref 106, .ref h.length, .ref rt, .ref 111, .ref 123, .ref 125, .ref 127, .ref 129, .ref 131, .int tk]) = g at F2 X2 hz hl
    have kp := F.kp (fun b z => by
      rcases z with rfl
      exact ⟨by omega, _, H.1, kn_c⟩)
    have kp2 := F2.kp (fun b z => by
      rcases z with rfl
      exact ⟨by omega, _, X', kn_t⟩)
    have RW2 := RW.kp kp2
    have w2 := F2.get w1 (by have := lt_of_get X; omega)
    have F3 : Fr (fun b => b = 105 ∨ b = 106) h g := Fr.tr (F.mono (fun b _ z => Or.inr z)) F2 (fun b _ z => Or.inl z)
    simp only [k_21_17, k_21_17N, k_21_18, okV_iff w2, sp_rsize RW2, am_cat, am_kill, Value.category, List.map_cons, List.map_nil, List.sum_cons, List.sum_nil, Option.toList_some, Option.toList_none, List.cons_append, List.nil_append, List.length_cons, List.length_nil, List.getD_cons_succ, List.getD_cons_zero, List.set_cons_succ, List.set_cons_zero, Nat.reduceAdd, Nat.reduceLT, Nat.reduceLeDiff, Nat.zero_le, Nat.zero_add, Nat.add_zero]
    simp only [k_21_21, am_cat, am_kill, Value.category, List.map_cons, List.map_nil, List.sum_cons, List.sum_nil, Option.toList_some, Option.toList_none, List.cons_append, List.nil_append, List.length_cons, List.length_nil, List.getD_cons_succ, List.getD_cons_zero, List.set_cons_succ, List.set_cons_zero, Nat.reduceAdd, Nat.reduceLT, Nat.reduceLeDiff, Nat.zero_le, Nat.zero_add, Nat.add_zero]
    have q3' : Tys g R τ ra rt := (q3.fr F kp (by omega) (by omega)).fr F2 kp2 (by omega) (by omega)
    have eR : (R.set 4 l).getD 4 [] = l := by rw [set_row (by omega), if_pos rfl]
    refine K g ⟨h.length, rt, a1, a2, a3, a4, st, u, c0, c1, c2, c3, c4, vs, ss, X2, ⟨H'.fr F2 (by omega) (by omega), hc0⟩, ⟨⟨h.length + 1, by rw [eR]; exact RW2⟩, q3'.2.1, q3'.2.2.1, q3'.2.2.2.set4 h5⟩, q4.fr F3 (by omega) (by omega), q5.fr F3 (by omega) (by omega) (by omega) (by omega) (by omega) (by omega), q6.fr F3 (by omega) (by omega) (fun b b1 b2 b3 => ⟨by omega, b3⟩), q7.fr F3 (by omega) (by omega) (by omega) (by omega), q8, q9.le (n := 6) (m := 18) (by omega) (by omega) (by omega) (by omega) F3.1⟩ (F3.fm (fun b z => by omega))
theorem co_fields {x : Int32} (I : SI s) (C : CI B s k h) (K : ∀ h', CI B (oFields x s).1 (k + 1) h' → Fm h h' → Q (some (.int (oFields x s).2)) h') : wp (d + 8) 12 0 [some (.ref 105), some (.int x), none] [] h Q := by
  have C1 := C.up (Nat.le_succ k)
  unfold oFields at K
  by_cases z1 : x < 0
  · rw [if_pos (Or.inl z1)] at K
    simp only [k_12_0, k_12_1, k_12_9, k_12_10, z1, if_true, am_cat, am_kill, Value.category, List.map_cons, List.map_nil, List.sum_cons, List.sum_nil, Option.toList_some, Option.toList_none, List.cons_append, List.nil_append, List.length_cons, List.length_nil, List.getD_cons_succ, List.getD_cons_zero, List.set_cons_succ, List.set_cons_zero, Nat.reduceAdd, Nat.reduceLT, Nat.reduceLeDiff, Nat.zero_le, Nat.zero_add, Nat.add_zero]
    exact K h C1 Fm.rf
  obtain ⟨m, hm, rfl⟩ := nI_of z1
  have e1 : (nI m < 4) ↔ m < 4 := nI_ltI (b := 4) hm (by omega)
  have e2 : (3 < nI m) ↔ 3 < m := nI_ltI (a := 3) (by omega) hm
  by_cases z2 : m < 4
  · rw [if_neg (fun z => z.elim z1 (fun y => by rw [e2] at y; omega)), nI_clamp hm] at K
    obtain ⟨W, L, R, τ, D, T, tk, Ls, br⟩ := s
    obtain ⟨ra, rt, a1, a2, a3, a4, st, u, c0, c1, c2, c3, c4, vs, ss, q1, ⟨H, hc0⟩, q3, q4, q5, q6, q7, q8, q9⟩ := C
    have X : h[105]? = some (.inr 0, [.ref 106, .ref ra, .ref rt, .ref 111, .ref 123, .ref 125, .ref 127, .ref 129, .ref 131, .int tk]) := q1
    have h5 : R.length = 5 := I.2.2.1.1
    have hs : sN ≤ 114 := by decide
    unfold oRow at K
    dsimp only at K
    obtain ⟨d1, d2, d3, d4, d5, d6⟩ := id q8
    have hN := sN5
    simp only [k_12_0, k_12_1, k_12_4, k_12_5, k_12_6, z1, e1, z2, if_true, if_false, am_cat, am_kill, Value.category, List.map_cons, List.map_nil, List.sum_cons, List.sum_nil, Option.toList_some, Option.toList_none, List.cons_append, List.nil_append, List.length_cons, List.length_nil, List.getD_cons_succ, List.getD_cons_zero, List.set_cons_succ, List.set_cons_zero, Nat.reduceAdd, Nat.reduceLT, Nat.reduceLeDiff, Nat.zero_le, Nat.zero_add, Nat.add_zero]
    simp only [k_12_11, k_12_11N, k_12_12, okV_iff X, am_cat, am_kill, Value.category, List.map_cons, List.map_nil, List.sum_cons, List.sum_nil, Option.toList_some, Option.toList_none, List.cons_append, List.nil_append, List.length_cons, List.length_nil, List.getD_cons_succ, List.getD_cons_zero, List.set_cons_succ, List.set_cons_zero, Nat.reduceAdd, Nat.reduceLT, Nat.reduceLeDiff, Nat.zero_le, Nat.zero_add, Nat.add_zero]
    refine co_takeRow q1 H q3.2.2.2.1 I.2.1.2 ?_
    cases hr : rdRow 4 L with
    | none =>
      rw [hr] at K
      intro h' H' F l1 l2
      have X' := F.get X (by omega)
      simp only [k_12_15, k_12_15N, k_12_16, k_12_16N, k_12_17, k_12_17N, k_12_20, k_12_22, am_cat, am_kill, Value.category, List.map_cons, List.map_nil, List.sum_cons, List.sum_nil, Option.toList_some, Option.toList_none, List.cons_append, List.nil_append, List.length_cons, List.length_nil, List.getD_cons_succ, List.getD_cons_zero, List.set_cons_succ, List.set_cons_zero, Nat.reduceAdd, Nat.reduceLT, Nat.reduceLeDiff, Nat.zero_le, Nat.zero_add, Nat.add_zero]
      have kp := F.kp (fun b z => by
        rcases z with rfl
        exact ⟨by omega, _, H.1, kn_c⟩)
      refine K h' ⟨ra, rt, a1, a2, a3, a4, st, u, c0, c1, c2, c3, c4, vs, ss, X', ⟨H', hc0⟩, q3.fr F kp (by omega) (by omega), q4.fr F (by omega) (by omega), q5.fr F (by omega) (by omega) (by omega) (by omega) (by omega) (by omega), q6.fr F (by omega) (by omega) (fun b b1 b2 b3 => ⟨by omega, b3⟩), q7.fr F (by omega) (by omega) (by omega) (by omega), q8, q9.le (n := 6) (m := 18) l1 l2 (by omega) (by omega) F.1⟩ (F.fm (fun b z => by omega))
    | some l =>
      rw [hr] at K
      intro h' H' F l1 l2 RW
      have X' := F.get X (by omega)
      have w1 : h'[h.length]? = some (.inr 2, [.ref (h.length + 1), .int (nI l.length)]) := by
        obtain ⟨_, r1, -⟩ := RW
        exact r1
      have kp := F.kp (fun b z => by
        rcases z with rfl
        exact ⟨by omega, _, H.1, kn_c⟩)
      obtain ⟨⟨qa, y1⟩, y2, y3, y4, y5, rr, y6, y7, y8⟩ := q3.fr F kp (by omega) (by omega)
      have okr := (rdRow_ok I.2.1.1 hr).2
      have o1 : okA (fun ty => decide (ty = .object (cN 2))) h' 114 (nI m) := ⟨_, _, y6, by decide, nI_pos hm, by rw [nI_clamp hm, List.length_map]; omega⟩
      simp only [k_12_15, k_12_15N, k_12_16, k_12_16N, k_12_17, k_12_17N, k_12_23, k_12_23N, k_12_27, k_12_28, k_12_28N, k_12_24, k_12_29, okG_iff X', fld_of X', okV_iff y5, am_cat, am_kill, Value.category, List.map_cons, List.map_nil, List.sum_cons, List.sum_nil, Option.toList_some, Option.toList_none, List.cons_append, List.nil_append, List.length_cons, List.length_nil, List.getD_cons_succ, List.getD_cons_zero, List.set_cons_succ, List.set_cons_zero, Nat.reduceAdd, Nat.reduceLT, Nat.reduceLeDiff, Nat.zero_le, Nat.zero_add, Nat.add_zero]
      simp only [k_19_0, k_19_0N, k_19_4, k_19_5, k_19_5N, k_19_1, okG_iff y5, fld_of y5, am_cat, am_kill, Value.category, List.map_cons, List.map_nil, List.sum_cons, List.sum_nil, Option.toList_some, Option.toList_none, List.cons_append, List.nil_append, List.length_cons, List.length_nil, List.getD_cons_succ, List.getD_cons_zero, List.set_cons_succ, List.set_cons_zero, Nat.reduceAdd, Nat.reduceLT, Nat.reduceLeDiff, Nat.zero_le, Nat.zero_add, Nat.add_zero]
      rw [k_19_6 w1 o1 hs, hast_of y6, nI_clamp hm]
      simp only [k_19_7, am_cat, am_kill, Value.category, List.map_cons, List.map_nil, List.sum_cons, List.sum_nil, Option.toList_some, Option.toList_none, List.cons_append, List.nil_append, List.length_cons, List.length_nil, List.getD_cons_succ, List.getD_cons_zero, List.set_cons_succ, List.set_cons_zero, Nat.reduceAdd, Nat.reduceLT, Nat.reduceLeDiff, Nat.zero_le, Nat.zero_add, Nat.add_zero]
      have F2 : Fr (fun b => b = 114) h' (h'.set 114 (.inl (.object "TestEmitter$TypeRow"), (rr.map Value.ref).set m (.ref h.length))) := Fr.set
      have Y2 := get_set_eq (x := ((.inl (.object "TestEmitter$TypeRow"), (rr.map Value.ref).set m (.ref h.length)) : AC)) y6
      have hz := sz_set (vs' := (rr.map Value.ref).set m (.ref h.length)) y6 (List.length_set ..)
      have hl : (h'.set 114 (.inl (.object "TestEmitter$TypeRow"), (rr.map Value.ref).set m (.ref h.length))).length = h'.length := List.length_set ..
      generalize h'.set 114 (.inl (.object "TestEmitter$TypeRow"), (rr.map Value.ref).set m (.ref h.length)) = g at F2 Y2 hz hl
      have kp2 := F2.kp (fun b z => by
        rcases z with rfl
        exact ⟨by omega, _, y6, kn_r⟩)
      have RW2 := RW.kp kp2
      have w2 := F2.get w1 (by have := lt_of_get y6; have := lt_of_get X; have := q9.2.2.2.2.2.2.2; omega)
      have X2 := F2.get X' (by omega)
      have F3 : Fr (fun b => b = 106 ∨ b = 114) h g := Fr.tr (F.mono (fun b _ z => Or.inl z)) F2 (fun b _ z => Or.inr z)
      simp only [k_12_32, k_12_32N, k_12_33, okV_iff w2, sp_rsize RW2, am_cat, am_kill, Value.category, List.map_cons, List.map_nil, List.sum_cons, List.sum_nil, Option.toList_some, Option.toList_none, List.cons_append, List.nil_append, List.length_cons, List.length_nil, List.getD_cons_succ, List.getD_cons_zero, List.set_cons_succ, List.set_cons_zero, Nat.reduceAdd, Nat.reduceLT, Nat.reduceLeDiff, Nat.zero_le, Nat.zero_add, Nat.add_zero]
      simp only [k_12_36, am_cat, am_kill, Value.category, List.map_cons, List.map_nil, List.sum_cons, List.sum_nil, Option.toList_some, Option.toList_none, List.cons_append, List.nil_append, List.length_cons, List.length_nil, List.getD_cons_succ, List.getD_cons_zero, List.set_cons_succ, List.set_cons_zero, Nat.reduceAdd, Nat.reduceLT, Nat.reduceLeDiff, Nat.zero_le, Nat.zero_add, Nat.add_zero]
      have eR : (R.set m l).getD 4 [] = R.getD 4 [] := by rw [set_row (by omega), if_neg (by omega)]
      refine K g ⟨ra, rt, a1, a2, a3, a4, st, u, c0, c1, c2, c3, c4, vs, ss, X2, ⟨H'.fr F2 (by omega) (by omega), hc0⟩, ⟨⟨qa, by rw [eR]; exact y1.kp kp2⟩, kp2.2 _ _ y2 (Or.inr (Or.inl rfl)), y3, y4.kp kp2, F2.get y5 (by omega), rr.set m h.length, by rw [Y2, List.map_set], by rw [List.length_set]; exact y7, fun k' r hk' => ?_⟩, q4.fr F3 (by omega) (by omega), q5.fr F3 (by omega) (by omega) (by omega) (by omega) (by omega) (by omega), q6.fr F3 (by omega) (by omega) (fun b b1 b2 b3 => ⟨by omega, b3⟩), q7.fr F3 (by omega) (by omega) (by omega) (by omega), q8, q9.le (n := 6) (m := 18) (by omega) (by omega) (by omega) (by omega) F3.1⟩ (F3.fm (fun b z => by omega))
      rw [List.getElem?_set] at hk'
      rw [set_row (by omega)]
      by_cases z5 : m = k'
      · subst z5
        rw [if_pos rfl, if_pos (by omega)] at hk'
        cases hk'
        rw [if_pos rfl]
        exact ⟨_, RW2, okr⟩
      · rw [if_neg z5] at hk'
        rw [if_neg (fun z => z5 z.symm)]
        obtain ⟨q, v1, v2⟩ := y8 k' r hk'
        exact ⟨q, v1.kp kp2, v2⟩
  · rw [if_pos (Or.inr (by rw [e2]; omega))] at K
    simp only [k_12_0, k_12_1, k_12_4, k_12_5, k_12_6, z1, e1, z2, if_false, am_cat, am_kill, Value.category, List.map_cons, List.map_nil, List.sum_cons, List.sum_nil, Option.toList_some, Option.toList_none, List.cons_append, List.nil_append, List.length_cons, List.length_nil, List.getD_cons_succ, List.getD_cons_zero, List.set_cons_succ, List.set_cons_zero, Nat.reduceAdd, Nat.reduceLT, Nat.reduceLeDiff, Nat.zero_le, Nat.zero_add, Nat.add_zero]
    simp only [k_12_9, k_12_10, am_cat, am_kill, Value.category, List.map_cons, List.map_nil, List.sum_cons, List.sum_nil, Option.toList_some, Option.toList_none, List.cons_append, List.nil_append, List.length_cons, List.length_nil, List.getD_cons_succ, List.getD_cons_zero, List.set_cons_succ, List.set_cons_zero, Nat.reduceAdd, Nat.reduceLT, Nat.reduceLeDiff, Nat.zero_le, Nat.zero_add, Nat.add_zero]
    exact K h C1 Fm.rf
theorem co_res (I : SI s) (C : CI B s k h) (K : ∀ h', CI B (oRes s).1 (k + 1) h' → Fm h h' → Q (some (.int (oRes s).2)) h') : wp (d + 8) 22 0 [some (.ref 105), none] [] h Q := by
  obtain ⟨W, L, R, τ, D, T, tk, Ls, br⟩ := s
  obtain ⟨ra, rt, a1, a2, a3, a4, st, u, c0, c1, c2, c3, c4, vs, ss, q1, ⟨H, hc0⟩, q3, q4, q5, q6, q7, q8, q9⟩ := C
  have X : h[105]? = some (.inr 0, [.ref 106, .ref ra, .ref rt, .ref 111, .ref 123, .ref 125, .ref 127, .ref 129, .ref 131, .int tk]) := q1
  have hs : sN ≤ 105 := by decide
  unfold oRes at K
  dsimp only at K
  obtain ⟨d1, d2, d3, d4, d5, d6⟩ := id q8
  have hN := sN5
  have hln := q9.2.2.2.2.2.2.2
  simp only [k_22_0, k_22_0N, k_22_1, k_22_4, okG_iff X, fld_of X, am_cat, am_kill, Value.category, List.map_cons, List.map_nil, List.sum_cons, List.sum_nil, Option.toList_some, Option.toList_none, List.cons_append, List.nil_append, List.length_cons, List.length_nil, List.getD_cons_succ, List.getD_cons_zero, List.set_cons_succ, List.set_cons_zero, Nat.reduceAdd, Nat.reduceLT, Nat.reduceLeDiff, Nat.zero_le, Nat.zero_add, Nat.add_zero]
  refine sp_readResult (d := d + 1) H I.2.1.2 (q3.2.2.2.1.str 0 (by decide)) (q3.2.2.2.1.str 1 (by decide)) ?_
  cases hr : rdRes L with
  | none =>
    rw [hr] at K
    intro g G
    have F := Fr.gr G
    have X2 := F.get X (fun z => z)
    have H2 := H.fr F (fun z => z) (fun z => z)
    simp only [k_22_7, k_22_7N, k_22_8, k_22_8N, k_22_9, k_22_12, okG_iff X2, fld_of X2, okV_iff H2.1, am_cat, am_kill, Value.category, List.map_cons, List.map_nil, List.sum_cons, List.sum_nil, Option.toList_some, Option.toList_none, List.cons_append, List.nil_append, List.length_cons, List.length_nil, List.getD_cons_succ, List.getD_cons_zero, List.set_cons_succ, List.set_cons_zero, Nat.reduceAdd, Nat.reduceLT, Nat.reduceLeDiff, Nat.zero_le, Nat.zero_add, Nat.add_zero]
    refine sp_empty2 H2 (fun h' H3 hz hh F2 => ?_)
    simp only [k_22_15, k_22_15N, k_22_16, k_22_16N, k_22_19, k_22_21, am_cat, am_kill, Value.category, List.map_cons, List.map_nil, List.sum_cons, List.sum_nil, Option.toList_some, Option.toList_none, List.cons_append, List.nil_append, List.length_cons, List.length_nil, List.getD_cons_succ, List.getD_cons_zero, List.set_cons_succ, List.set_cons_zero, Nat.reduceAdd, Nat.reduceLT, Nat.reduceLeDiff, Nat.zero_le, Nat.zero_add, Nat.add_zero]
    have g1 := G.2.1
    have g2 := G.2.2.1
    have F3 : Fr (fun b => b = 106) h h' := Fr.tr (F.mono (fun b _ z => z.elim)) F2 (fun b _ z => z)
    have kp := F3.kp (fun b z => by
      rcases z with rfl
      exact ⟨by omega, _, H.1, kn_c⟩)
    refine K h' ⟨ra, rt, a1, a2, a3, a4, st, u, c0, c1, c2, c3, c4, vs, ss, F3.get X (by omega), ⟨H3, hc0⟩, q3.fr F3 kp (by omega) (by omega), q4.fr F3 (by omega) (by omega), q5.fr F3 (by omega) (by omega) (by omega) (by omega) (by omega) (by omega), q6.fr F3 (by omega) (by omega) (fun b b1 b2 b3 => ⟨by omega, b3⟩), q7.fr F3 (by omega) (by omega) (by omega) (by omega), q8, q9.le (n := 6) (m := 18) (by omega) (by omega) (by omega) (by omega) F3.1⟩ (F3.fm (fun b z => by omega))
  | some σ =>
    rw [hr] at K
    intro g G TY
    have F := Fr.gr G
    have X2 := F.get X (fun z => z)
    have H2 := H.fr F (fun z => z) (fun z => z)
    simp only [k_22_7, k_22_7N, k_22_8, k_22_8N, k_22_9, k_22_12, okG_iff X2, fld_of X2, okV_iff H2.1, am_cat, am_kill, Value.category, List.map_cons, List.map_nil, List.sum_cons, List.sum_nil, Option.toList_some, Option.toList_none, List.cons_append, List.nil_append, List.length_cons, List.length_nil, List.getD_cons_succ, List.getD_cons_zero, List.set_cons_succ, List.set_cons_zero, Nat.reduceAdd, Nat.reduceLT, Nat.reduceLeDiff, Nat.zero_le, Nat.zero_add, Nat.add_zero]
    refine sp_empty2 H2 (fun h' H3 hz hh F2 => ?_)
    have X3 := F2.get X2 (by omega)
    simp only [k_22_15, k_22_15N, k_22_16, k_22_16N, k_22_22, k_22_22N, k_22_23, k_22_23N, k_22_24, okG_iff X3, hput_of X3, hs, am_cat, am_kill, Value.category, List.map_cons, List.map_nil, List.sum_cons, List.sum_nil, Option.toList_some, Option.toList_none, List.cons_append, List.nil_append, List.length_cons, List.length_nil, List.getD_cons_succ, List.getD_cons_zero, List.set_cons_succ, List.set_cons_zero, Nat.reduceAdd, Nat.reduceLT, Nat.reduceLeDiff, Nat.zero_le, Nat.zero_add, Nat.add_zero]
    have g1 := G.2.1
    have g2 := G.2.2.1
    have F4 : Fr (fun b => b = 105) h' (h'.set 105 (.inr 0, [.ref 106, .ref ra, .ref h.length, .ref 111, .ref 123, .ref 125, .ref 127, .ref 129, .ref 131, .int tk])) := Fr.set
    have X4 := get_set_eq (x := ((.inr 0, [.ref 106, .ref ra, .ref h.length, .ref 111, .ref 123, .ref 125, .ref 127, .ref 129, .ref 131, .int tk]) : AC)) X3
    have hz2 := sz_set (vs' := [.ref 106, .ref ra, .ref h.length, .ref 111, .ref 123, .ref 125, .ref 127, .ref 129, .ref 131, .int tk]) X3 rfl
    have hl2 : (h'.set 105 (.inr 0, [.ref 106, .ref ra, .ref h.length, .ref 111, .ref 123, .ref 125, .ref 127, .ref 129, .ref 131, .int tk])).length = h'.length := List.length_set ..
    generalize h'.set 105 (.inr 0, [.ref 106, .ref ra, .ref h.length, .ref 111, .ref 123, .ref 125, .ref 127, .ref 129, .ref 131, .int tk]) = g3 at F4 X4 hz2 hl2
    simp only [k_22_27, k_22_28, am_cat, am_kill, Value.category, List.map_cons, List.map_nil, List.sum_cons, List.sum_nil, Option.toList_some, Option.toList_none, List.cons_append, List.nil_append, List.length_cons, List.length_nil, List.getD_cons_succ, List.getD_cons_zero, List.set_cons_succ, List.set_cons_zero, Nat.reduceAdd, Nat.reduceLT, Nat.reduceLeDiff, Nat.zero_le, Nat.zero_add, Nat.add_zero]
    have F3 : Fr (fun b => b = 105 ∨ b = 106) h g3 := Fr.tr (Fr.tr (F.mono (fun b _ z => z.elim)) F2 (fun b _ z => Or.inr z)) F4 (fun b _ z => Or.inl z)
    have kp := F3.kp (fun b z => by
      rcases z with rfl | rfl
      · exact ⟨by omega, _, X, kn_t⟩
      · exact ⟨by omega, _, H.1, kn_c⟩)
    have q3' := q3.fr F3 kp (by omega) (by omega)
    have TY2 := F4.get (F2.get TY (by omega)) (by omega)
    refine K g3 ⟨ra, h.length, a1, a2, a3, a4, st, u, c0, c1, c2, c3, c4, vs, ss, X4, ⟨H3.fr F4 (by omega) (by omega), hc0⟩, ⟨q3'.1, TY2, by omega, q3'.2.2.2⟩, q4.fr F3 (by omega) (by omega), q5.fr F3 (by omega) (by omega) (by omega) (by omega) (by omega) (by omega), q6.fr F3 (by omega) (by omega) (fun b b1 b2 b3 => ⟨by omega, b3⟩), q7.fr F3 (by omega) (by omega) (by omega) (by omega), q8, q9.le (n := 6) (m := 18) (by omega) (by omega) (by omega) (by omega) F3.1⟩ (F3.fm (fun b z => by omega))
theorem co_data {x : Int32} (C : CI B s k h) (K : ∀ h', CI B (oData x s).1 (k + 1) h' → Fm h h' → Q (some (.int (oData x s).2)) h') : wp (d + 1) 25 0 [some (.ref 105), some (.int x)] [] h Q := by
  obtain ⟨W, L, R, τ, D, T, tk, Ls, br⟩ := s
  have C1 := C.up (Nat.le_succ k)
  obtain ⟨ra, rt, a1, a2, a3, a4, st, u, c0, c1, c2, c3, c4, vs, ss, q1, ⟨H, hc0⟩, q3, q4, q5, q6, q7, q8, q9⟩ := C
  have X : h[105]? = some (.inr 0, [.ref 106, .ref ra, .ref rt, .ref 111, .ref 123, .ref 125, .ref 127, .ref 129, .ref 131, .int tk]) := q1
  have Y := q3.b1
  have hN := sN5
  obtain ⟨d1, d2, d3, d4, d5, d6⟩ := id q8
  obtain ⟨v1, v2, v3, v4, v5, v6, v7, v8⟩ := id q4
  unfold oData at K
  dsimp only at K
  simp only [k_25_0, k_25_0N, k_25_1, k_25_4, okG_iff X, fld_of X, okV_iff Y, am_cat, am_kill, Value.category, List.map_cons, List.map_nil, List.sum_cons, List.sum_nil, Option.toList_some, Option.toList_none, List.cons_append, List.nil_append, List.length_cons, List.length_nil, List.getD_cons_succ, List.getD_cons_zero, List.set_cons_succ, List.set_cons_zero, Nat.reduceAdd, Nat.reduceLT, Nat.reduceLeDiff, Nat.zero_le, Nat.zero_add, Nat.add_zero]
  simp only [k_26_0, k_26_0N, k_26_4, k_26_4N, k_26_1, okG_iff Y, fld_of Y, am_cat, am_kill, Value.category, List.map_cons, List.map_nil, List.sum_cons, List.sum_nil, Option.toList_some, Option.toList_none, List.cons_append, List.nil_append, List.length_cons, List.length_nil, List.getD_cons_succ, List.getD_cons_zero, List.set_cons_succ, List.set_cons_zero, Nat.reduceAdd, Nat.reduceLT, Nat.reduceLeDiff, Nat.zero_le, Nat.zero_add, Nat.add_zero]
  simp only [k_25_7, k_25_8, okV_iff v1, sp_dadd q4, am_cat, am_kill, Value.category, List.map_cons, List.map_nil, List.sum_cons, List.sum_nil, Option.toList_some, Option.toList_none, List.cons_append, List.nil_append, List.length_cons, List.length_nil, List.getD_cons_succ, List.getD_cons_zero, List.set_cons_succ, List.set_cons_zero, Nat.reduceAdd, Nat.reduceLT, Nat.reduceLeDiff, Nat.zero_le, Nat.zero_add, Nat.add_zero]
  by_cases z3 : D.length = 60
  · rw [if_pos z3] at K
    rw [if_neg (by omega)]
    simp only [k_25_11, k_25_27, k_25_29, if_true, am_cat, am_kill, Value.category, List.map_cons, List.map_nil, List.sum_cons, List.sum_nil, Option.toList_some, Option.toList_none, List.cons_append, List.nil_append, List.length_cons, List.length_nil, List.getD_cons_succ, List.getD_cons_zero, List.set_cons_succ, List.set_cons_zero, Nat.reduceAdd, Nat.reduceLT, Nat.reduceLeDiff, Nat.zero_le, Nat.zero_add, Nat.add_zero]
    exact K h C1 Fm.rf
  · rw [if_neg z3] at K
    rw [if_pos (by omega)]
    have hi : (112 : Nat) ≠ 113 := by decide
    have k1 : (h.set 113 (.inl .int, vs.set D.length (.int x)))[112]? = some (.inr 5, [.ref 113, .int (nI D.length), .int (nI u)]) := by rw [get_set_ne hi.symm]; exact v1
    have D2 : Dat ((h.set 113 (.inl .int, vs.set D.length (.int x))).set 112 (.inr 5, [.ref 113, .int (nI (D.length + 1)), .int (nI u)])) 112 113 (D ++ [x]) u (vs.set D.length (.int x)) := by
      refine ⟨by rw [List.length_append]; exact get_set_eq k1, by rw [get_set_ne hi]; exact get_set_eq v2, by rw [List.length_set]; exact v3, fun j c hj => ?_, by rw [List.length_append]; show D.length + 1 ≤ 60; omega, by rw [List.length_append]; omega, v7, v8⟩
      rw [List.getElem?_append] at hj
      rw [List.getElem?_set]
      by_cases z4 : j < D.length
      · rw [if_pos z4] at hj
        rw [if_neg (by omega)]
        exact v4 j c hj
      · rw [if_neg z4] at hj
        have hz : j - D.length < 1 := (List.getElem?_eq_some_iff.mp hj).1
        obtain rfl : j = D.length := by omega
        rw [Nat.sub_self] at hj
        cases hj
        rw [if_pos rfl, if_pos (by omega)]
    have hz : am_sz ((h.set 113 (.inl .int, vs.set D.length (.int x))).set 112 (.inr 5, [.ref 113, .int (nI (D.length + 1)), .int (nI u)])) = am_sz h := by
      rw [sz_set (vs' := [.ref 113, .int (nI (D.length + 1)), .int (nI u)]) k1 rfl, sz_set v2 (List.length_set ..)]
    have hl : ((h.set 113 (.inl .int, vs.set D.length (.int x))).set 112 (.inr 5, [.ref 113, .int (nI (D.length + 1)), .int (nI u)])).length = h.length := by rw [List.length_set, List.length_set]
    have F : Fr (fun b => b = 112 ∨ b = 113) h ((h.set 113 (.inl .int, vs.set D.length (.int x))).set 112 (.inr 5, [.ref 113, .int (nI (D.length + 1)), .int (nI u)])) := Fr.tr (Fr.set.mono (fun b _ z => Or.inr z)) Fr.set (fun b _ z => Or.inl z)
    generalize (h.set 113 (.inl .int, vs.set D.length (.int x))).set 112 (.inr 5, [.ref 113, .int (nI (D.length + 1)), .int (nI u)]) = h' at D2 hz hl F
    have X' := F.get X (by omega)
    have Y' := F.get Y (by omega)
    simp only [k_25_11, show ¬ (1 : Int32) = 0 by decide, if_false, am_cat, am_kill, Value.category, List.map_cons, List.map_nil, List.sum_cons, List.sum_nil, Option.toList_some, Option.toList_none, List.cons_append, List.nil_append, List.length_cons, List.length_nil, List.getD_cons_succ, List.getD_cons_zero, List.set_cons_succ, List.set_cons_zero, Nat.reduceAdd, Nat.reduceLT, Nat.reduceLeDiff, Nat.zero_le, Nat.zero_add, Nat.add_zero]
    simp only [k_25_14, k_25_14N, k_25_15, k_25_18, okG_iff X', fld_of X', okV_iff Y', am_cat, am_kill, Value.category, List.map_cons, List.map_nil, List.sum_cons, List.sum_nil, Option.toList_some, Option.toList_none, List.cons_append, List.nil_append, List.length_cons, List.length_nil, List.getD_cons_succ, List.getD_cons_zero, List.set_cons_succ, List.set_cons_zero, Nat.reduceAdd, Nat.reduceLT, Nat.reduceLeDiff, Nat.zero_le, Nat.zero_add, Nat.add_zero]
    simp only [k_26_0, k_26_0N, k_26_4, k_26_4N, k_26_1, okG_iff Y', fld_of Y', am_cat, am_kill, Value.category, List.map_cons, List.map_nil, List.sum_cons, List.sum_nil, Option.toList_some, Option.toList_none, List.cons_append, List.nil_append, List.length_cons, List.length_nil, List.getD_cons_succ, List.getD_cons_zero, List.set_cons_succ, List.set_cons_zero, Nat.reduceAdd, Nat.reduceLT, Nat.reduceLeDiff, Nat.zero_le, Nat.zero_add, Nat.add_zero]
    simp only [k_25_21, okV_iff D2.1, sp_dsize D2, am_cat, am_kill, Value.category, List.map_cons, List.map_nil, List.sum_cons, List.sum_nil, Option.toList_some, Option.toList_none, List.cons_append, List.nil_append, List.length_cons, List.length_nil, List.getD_cons_succ, List.getD_cons_zero, List.set_cons_succ, List.set_cons_zero, Nat.reduceAdd, Nat.reduceLT, Nat.reduceLeDiff, Nat.zero_le, Nat.zero_add, Nat.add_zero]
    simp only [k_25_24, k_25_29, am_cat, am_kill, Value.category, List.map_cons, List.map_nil, List.sum_cons, List.sum_nil, Option.toList_some, Option.toList_none, List.cons_append, List.nil_append, List.length_cons, List.length_nil, List.getD_cons_succ, List.getD_cons_zero, List.set_cons_succ, List.set_cons_zero, Nat.reduceAdd, Nat.reduceLT, Nat.reduceLeDiff, Nat.zero_le, Nat.zero_add, Nat.add_zero]
    rw [List.length_append]
    have kp := F.kp (fun b z => by
      rcases z with rfl | rfl
      · exact ⟨by omega, _, v1, kn_d⟩
      · exact ⟨by omega, _, v2, kn_i⟩)
    refine K h' ⟨ra, rt, a1, a2, a3, a4, st, u, c0, c1, c2, c3, c4, _, ss, X', ⟨H.fr F (by omega) (by omega), hc0⟩, q3.fr F kp (by omega) (by omega), D2, q5.fr F (by omega) (by omega) (by omega) (by omega) (by omega) (by omega), q6.fr F (by omega) (by omega) (fun b b1 b2 b3 => ⟨by omega, b3⟩), q7.fr F (by omega) (by omega) (by omega) (by omega), q8, q9.le (n := 0) (m := 0) (by omega) (by omega) (by omega) (by omega) (by omega)⟩ (F.fm (fun b z => by omega))
theorem co_clear (C : CI B s k h) (K : ∀ h', CI B (oClear s).1 (k + 1) h' → Fm h h' → Q (some (.int (oClear s).2)) h') : wp (d + 1) 29 0 [some (.ref 105), none] [] h Q := by
  obtain ⟨W, L, R, τ, D, T, tk, Ls, br⟩ := s
  obtain ⟨ra, rt, a1, a2, a3, a4, st, u, c0, c1, c2, c3, c4, vs, ss, q1, ⟨H, hc0⟩, q3, q4, q5, q6, q7, q8, q9⟩ := C
  have X : h[105]? = some (.inr 0, [.ref 106, .ref ra, .ref rt, .ref 111, .ref 123, .ref 125, .ref 127, .ref 129, .ref 131, .int tk]) := q1
  have Y := q3.b1
  have hN := sN5
  obtain ⟨d1, d2, d3, d4, d5, d6⟩ := id q8
  obtain ⟨v1, v2, v3, v4, v5, v6, v7, v8⟩ := id q4
  simp only [k_29_0, k_29_0N, k_29_1, k_29_4, okG_iff X, fld_of X, okV_iff Y, am_cat, am_kill, Value.category, List.map_cons, List.map_nil, List.sum_cons, List.sum_nil, Option.toList_some, Option.toList_none, List.cons_append, List.nil_append, List.length_cons, List.length_nil, List.getD_cons_succ, List.getD_cons_zero, List.set_cons_succ, List.set_cons_zero, Nat.reduceAdd, Nat.reduceLT, Nat.reduceLeDiff, Nat.zero_le, Nat.zero_add, Nat.add_zero]
  simp only [k_26_0, k_26_0N, k_26_4, k_26_4N, k_26_1, okG_iff Y, fld_of Y, am_cat, am_kill, Value.category, List.map_cons, List.map_nil, List.sum_cons, List.sum_nil, Option.toList_some, Option.toList_none, List.cons_append, List.nil_append, List.length_cons, List.length_nil, List.getD_cons_succ, List.getD_cons_zero, List.set_cons_succ, List.set_cons_zero, Nat.reduceAdd, Nat.reduceLT, Nat.reduceLeDiff, Nat.zero_le, Nat.zero_add, Nat.add_zero]
  simp only [k_29_7, okV_iff v1, sp_dsize q4, am_cat, am_kill, Value.category, List.map_cons, List.map_nil, List.sum_cons, List.sum_nil, Option.toList_some, Option.toList_none, List.cons_append, List.nil_append, List.length_cons, List.length_nil, List.getD_cons_succ, List.getD_cons_zero, List.set_cons_succ, List.set_cons_zero, Nat.reduceAdd, Nat.reduceLT, Nat.reduceLeDiff, Nat.zero_le, Nat.zero_add, Nat.add_zero]
  simp only [k_29_10, k_29_11, k_29_11N, k_29_12, k_29_15, okG_iff X, fld_of X, okV_iff Y, am_cat, am_kill, Value.category, List.map_cons, List.map_nil, List.sum_cons, List.sum_nil, Option.toList_some, Option.toList_none, List.cons_append, List.nil_append, List.length_cons, List.length_nil, List.getD_cons_succ, List.getD_cons_zero, List.set_cons_succ, List.set_cons_zero, Nat.reduceAdd, Nat.reduceLT, Nat.reduceLeDiff, Nat.zero_le, Nat.zero_add, Nat.add_zero]
  simp only [k_26_0, k_26_0N, k_26_4, k_26_4N, k_26_1, okG_iff Y, fld_of Y, am_cat, am_kill, Value.category, List.map_cons, List.map_nil, List.sum_cons, List.sum_nil, Option.toList_some, Option.toList_none, List.cons_append, List.nil_append, List.length_cons, List.length_nil, List.getD_cons_succ, List.getD_cons_zero, List.set_cons_succ, List.set_cons_zero, Nat.reduceAdd, Nat.reduceLT, Nat.reduceLeDiff, Nat.zero_le, Nat.zero_add, Nat.add_zero]
  simp only [k_29_18, okV_iff v1, sp_dempty q4, am_cat, am_kill, Value.category, List.map_cons, List.map_nil, List.sum_cons, List.sum_nil, Option.toList_some, Option.toList_none, List.cons_append, List.nil_append, List.length_cons, List.length_nil, List.getD_cons_succ, List.getD_cons_zero, List.set_cons_succ, List.set_cons_zero, Nat.reduceAdd, Nat.reduceLT, Nat.reduceLeDiff, Nat.zero_le, Nat.zero_add, Nat.add_zero]
  simp only [k_29_21, k_29_22, am_cat, am_kill, Value.category, List.map_cons, List.map_nil, List.sum_cons, List.sum_nil, Option.toList_some, Option.toList_none, List.cons_append, List.nil_append, List.length_cons, List.length_nil, List.getD_cons_succ, List.getD_cons_zero, List.set_cons_succ, List.set_cons_zero, Nat.reduceAdd, Nat.reduceLT, Nat.reduceLeDiff, Nat.zero_le, Nat.zero_add, Nat.add_zero]
  have D2 : Dat (h.set 112 (.inr 5, [.ref 113, .int (nI 0), .int (nI 0)])) 112 113 [] 0 vs := ⟨get_set_eq v1, by rw [get_set_ne (by decide)]; exact v2, v3, fun j c hj => by simp at hj, Nat.zero_le _, Nat.zero_le _, v7, v8⟩
  have F : Fr (fun b => b = 112) h (h.set 112 (.inr 5, [.ref 113, .int (nI 0), .int (nI 0)])) := Fr.set
  have hz := sz_set (vs' := [.ref 113, .int (nI 0), .int (nI 0)]) v1 rfl
  have hl : (h.set 112 (.inr 5, [.ref 113, .int (nI 0), .int (nI 0)])).length = h.length := List.length_set ..
  generalize h.set 112 (.inr 5, [.ref 113, .int (nI 0), .int (nI 0)]) = h' at D2 F hz hl
  have kp := F.kp (fun b z => by
    rcases z with rfl
    exact ⟨by omega, _, v1, kn_d⟩)
  refine K h' ⟨ra, rt, a1, a2, a3, a4, st, 0, c0, c1, c2, c3, c4, vs, ss, F.get X (by omega), ⟨H.fr F (by omega) (by omega), hc0⟩, q3.fr F kp (by omega) (by omega), D2, q5.fr F (by omega) (by omega) (by omega) (by omega) (by omega) (by omega), q6.fr F (by omega) (by omega) (fun b b1 b2 b3 => ⟨by omega, b3⟩), q7.fr F (by omega) (by omega) (by omega) (by omega), q8, q9.le (n := 0) (m := 0) (by omega) (by omega) (by omega) (by omega) (by omega)⟩ (F.fm (fun b z => by omega))
theorem co_taken (C : CI B s k h) (K : ∀ h', CI B (oTaken s).1 (k + 1) h' → Fm h h' → Q (some (.int (oTaken s).2)) h') : wp d 68 0 [some (.ref 105)] [] h Q := by
  obtain ⟨W, L, R, τ, D, T, tk, Ls, br⟩ := s
  have K := K h (C.up (Nat.le_succ k)) Fm.rf
  obtain ⟨ra, rt, a1, a2, a3, a4, st, u, c0, c1, c2, c3, c4, vs, ss, q1, -⟩ := C
  have X : h[105]? = some (.inr 0, [.ref 106, .ref ra, .ref rt, .ref 111, .ref 123, .ref 125, .ref 127, .ref 129, .ref 131, .int tk]) := q1
  simp only [k_68_0, k_68_0N, k_68_4, k_68_1, okG_iff X, fld_of X, am_cat, am_kill, Value.category, List.map_cons, List.map_nil, List.sum_cons, List.sum_nil, Option.toList_some, Option.toList_none, List.cons_append, List.nil_append, List.length_cons, List.length_nil, List.getD_cons_succ, List.getD_cons_zero, List.set_cons_succ, List.set_cons_zero, Nat.reduceAdd, Nat.reduceLT, Nat.reduceLeDiff, Nat.zero_le, Nat.zero_add, Nat.add_zero]
  exact K
theorem co_drop (C : CI B s k h) (K : ∀ h', CI B (oDrop s).1 (k + 1) h' → Fm h h' → Q (some (.int (oDrop s).2)) h') : wp (d + 1) 69 0 [some (.ref 105), none] [] h Q := by
  obtain ⟨W, L, R, τ, D, T, tk, Ls, br⟩ := s
  obtain ⟨ra, rt, a1, a2, a3, a4, st, u, c0, c1, c2, c3, c4, vs, ss, q1, ⟨H, hc0⟩, q3, q4, q5, q6, q7, q8, q9⟩ := C
  have X : h[105]? = some (.inr 0, [.ref 106, .ref ra, .ref rt, .ref 111, .ref 123, .ref 125, .ref 127, .ref 129, .ref 131, .int tk]) := q1
  have hN := sN5
  obtain ⟨d1, d2, d3, d4, d5, d6⟩ := id q8
  obtain ⟨bs, s1, s2, s3, s4⟩ := id q6
  have hs : sN ≤ 129 := by decide
  have w1 := get_set_eq (x := ((.inr 6, [.ref 130, .int 0, .int (nI (cntB T))]) : AC)) s1
  simp only [k_69_0, k_69_0N, k_69_1, k_69_4, okG_iff X, fld_of X, okV_iff s1, am_cat, am_kill, Value.category, List.map_cons, List.map_nil, List.sum_cons, List.sum_nil, Option.toList_some, Option.toList_none, List.cons_append, List.nil_append, List.length_cons, List.length_nil, List.getD_cons_succ, List.getD_cons_zero, List.set_cons_succ, List.set_cons_zero, Nat.reduceAdd, Nat.reduceLT, Nat.reduceLeDiff, Nat.zero_le, Nat.zero_add, Nat.add_zero]
  simp only [k_70_0, k_70_0N, k_70_4, k_70_1, okG_iff s1, fld_of s1, am_cat, am_kill, Value.category, List.map_cons, List.map_nil, List.sum_cons, List.sum_nil, Option.toList_some, Option.toList_none, List.cons_append, List.nil_append, List.length_cons, List.length_nil, List.getD_cons_succ, List.getD_cons_zero, List.set_cons_succ, List.set_cons_zero, Nat.reduceAdd, Nat.reduceLT, Nat.reduceLeDiff, Nat.zero_le, Nat.zero_add, Nat.add_zero]
  simp only [k_69_7, k_69_8, k_69_8N, k_69_9, k_69_12, okG_iff X, fld_of X, okV_iff s1, am_cat, am_kill, Value.category, List.map_cons, List.map_nil, List.sum_cons, List.sum_nil, Option.toList_some, Option.toList_none, List.cons_append, List.nil_append, List.length_cons, List.length_nil, List.getD_cons_succ, List.getD_cons_zero, List.set_cons_succ, List.set_cons_zero, Nat.reduceAdd, Nat.reduceLT, Nat.reduceLeDiff, Nat.zero_le, Nat.zero_add, Nat.add_zero]
  simp only [k_71_0, k_71_0N, k_71_1, k_71_2, okG_iff s1, hput_of s1, hs, am_cat, am_kill, Value.category, List.map_cons, List.map_nil, List.sum_cons, List.sum_nil, Option.toList_some, Option.toList_none, List.cons_append, List.nil_append, List.length_cons, List.length_nil, List.getD_cons_succ, List.getD_cons_zero, List.set_cons_succ, List.set_cons_zero, Nat.reduceAdd, Nat.reduceLT, Nat.reduceLeDiff, Nat.zero_le, Nat.zero_add, Nat.add_zero]
  simp only [k_71_5, k_71_5N, k_71_6, k_71_10, k_71_7, okG_iff w1, hput_of w1, hs, am_cat, am_kill, Value.category, List.map_cons, List.map_nil, List.sum_cons, List.sum_nil, Option.toList_some, Option.toList_none, List.cons_append, List.nil_append, List.length_cons, List.length_nil, List.getD_cons_succ, List.getD_cons_zero, List.set_cons_succ, List.set_cons_zero, Nat.reduceAdd, Nat.reduceLT, Nat.reduceLeDiff, Nat.zero_le, Nat.zero_add, Nat.add_zero]
  simp only [k_69_15, k_69_16, am_cat, am_kill, Value.category, List.map_cons, List.map_nil, List.sum_cons, List.sum_nil, Option.toList_some, Option.toList_none, List.cons_append, List.nil_append, List.length_cons, List.length_nil, List.getD_cons_succ, List.getD_cons_zero, List.set_cons_succ, List.set_cons_zero, Nat.reduceAdd, Nat.reduceLT, Nat.reduceLeDiff, Nat.zero_le, Nat.zero_add, Nat.add_zero]
  have w2 := get_set_eq (x := ((.inr 6, [.ref 130, .int 0, .int 0]) : AC)) w1
  have F : Fr (fun b => b = 129) h ((h.set 129 (.inr 6, [.ref 130, .int 0, .int (nI (cntB T))])).set 129 (.inr 6, [.ref 130, .int 0, .int 0])) := Fr.tr Fr.set Fr.set (fun b _ z => z)
  have hz : am_sz ((h.set 129 (.inr 6, [.ref 130, .int 0, .int (nI (cntB T))])).set 129 (.inr 6, [.ref 130, .int 0, .int 0])) = am_sz h := by
    rw [sz_set (vs' := [.ref 130, .int 0, .int 0]) w1 rfl, sz_set (vs' := [.ref 130, .int 0, .int (nI (cntB T))]) s1 rfl]
  have hl : ((h.set 129 (.inr 6, [.ref 130, .int 0, .int (nI (cntB T))])).set 129 (.inr 6, [.ref 130, .int 0, .int 0])).length = h.length := by rw [List.length_set, List.length_set]
  generalize (h.set 129 (.inr 6, [.ref 130, .int 0, .int (nI (cntB T))])).set 129 (.inr 6, [.ref 130, .int 0, .int 0]) = h' at w2 F hz hl
  have kp := F.kp (fun b z => by
    rcases z with rfl
    exact ⟨by omega, _, s1, kn_s⟩)
  refine K h' ⟨ra, rt, a1, a2, a3, a4, st, u, c0, c1, c2, c3, c4, vs, ss, F.get X (by omega), ⟨H.fr F (by omega) (by omega), hc0⟩, q3.fr F kp (by omega) (by omega), q4.fr F (by omega) (by omega), q5.fr F (by omega) (by omega) (by omega) (by omega) (by omega) (by omega), ⟨bs, w2, F.get s2 (by omega), s3, fun j b hb => absurd (show (none : Option Tst1) = some b from hb) (by simp)⟩, q7.fr F (by omega) (by omega) (by omega) (by omega), q8, q9.le (n := 0) (m := 0) (by omega) (by omega) (by omega) (by omega) (by omega)⟩ (F.fm (fun b z => by omega))
theorem co_at {x : Int32} (C : CI B s k h) (K : ∀ h', CI B (oAt x s).1 (k + 1) h' → Fm h h' → Q (some (.int (oAt x s).2)) h') : wp (d + 2) 83 0 [some (.ref 105), some (.int x)] [] h Q := by
  obtain ⟨W, L, R, τ, D, T, tk, Ls, br⟩ := s
  have K := K h (C.up (Nat.le_succ k)) Fm.rf
  obtain ⟨ra, rt, a1, a2, a3, a4, st, u, c0, c1, c2, c3, c4, vs, ss, q1, -, -, -, -, -, ⟨x1, x2, x3⟩, -⟩ := C
  have X : h[105]? = some (.inr 0, [.ref 106, .ref ra, .ref rt, .ref 111, .ref 123, .ref 125, .ref 127, .ref 129, .ref 131, .int tk]) := q1
  simp only [k_83_0, k_83_0N, k_83_4, k_83_1, k_83_5, okG_iff X, fld_of X, okV_iff x1, am_cat, am_kill, Value.category, List.map_cons, List.map_nil, List.sum_cons, List.sum_nil, Option.toList_some, Option.toList_none, List.cons_append, List.nil_append, List.length_cons, List.length_nil, List.getD_cons_succ, List.getD_cons_zero, List.set_cons_succ, List.set_cons_zero, Nat.reduceAdd, Nat.reduceLT, Nat.reduceLeDiff, Nat.zero_le, Nat.zero_add, Nat.add_zero]
  simp only [k_84_0, k_84_0N, k_84_4, k_84_1, k_84_5, okG_iff x1, fld_of x1, okV_iff x2.1, sp_get x2, am_cat, am_kill, Value.category, List.map_cons, List.map_nil, List.sum_cons, List.sum_nil, Option.toList_some, Option.toList_none, List.cons_append, List.nil_append, List.length_cons, List.length_nil, List.getD_cons_succ, List.getD_cons_zero, List.set_cons_succ, List.set_cons_zero, Nat.reduceAdd, Nat.reduceLT, Nat.reduceLeDiff, Nat.zero_le, Nat.zero_add, Nat.add_zero]
  simp only [k_84_8, am_cat, am_kill, Value.category, List.map_cons, List.map_nil, List.sum_cons, List.sum_nil, Option.toList_some, Option.toList_none, List.cons_append, List.nil_append, List.length_cons, List.length_nil, List.getD_cons_succ, List.getD_cons_zero, List.set_cons_succ, List.set_cons_zero, Nat.reduceAdd, Nat.reduceLT, Nat.reduceLeDiff, Nat.zero_le, Nat.zero_add, Nat.add_zero]
  simp only [k_83_8, am_cat, am_kill, Value.category, List.map_cons, List.map_nil, List.sum_cons, List.sum_nil, Option.toList_some, Option.toList_none, List.cons_append, List.nil_append, List.length_cons, List.length_nil, List.getD_cons_succ, List.getD_cons_zero, List.set_cons_succ, List.set_cons_zero, Nat.reduceAdd, Nat.reduceLT, Nat.reduceLeDiff, Nat.zero_le, Nat.zero_add, Nat.add_zero]
  exact K
theorem co_line {x : Int32} (I : SI s) (C : CI B s k h) (K : ∀ h', CI B (oLine x s).1 (k + 1) h' → Fm h h' → Q (some (.int (oLine x s).2)) h') : wp (d + 1) 85 0 [some (.ref 105), some (.int x)] [] h Q := by
  obtain ⟨W, L, R, τ, D, T, tk, Ls, br⟩ := s
  have K := K h (C.up (Nat.le_succ k)) Fm.rf
  have it : (tx Ls).length ≤ 16800 := I.2.2.2.2.2.2.2.1
  have hg := tx_ge Ls
  obtain ⟨ra, rt, a1, a2, a3, a4, st, u, c0, c1, c2, c3, c4, vs, ss, q1, -, -, -, -, -, ⟨x1, x2, x3, x4, x5, x6⟩, -, q9⟩ := C
  have X : h[105]? = some (.inr 0, [.ref 106, .ref ra, .ref rt, .ref 111, .ref 123, .ref 125, .ref 127, .ref 129, .ref 131, .int tk]) := q1
  unfold oLine at K
  dsimp only at K
  simp only [k_85_0, k_85_0N, k_85_4, k_85_1, k_85_5, okG_iff X, fld_of X, okV_iff x1, am_cat, am_kill, Value.category, List.map_cons, List.map_nil, List.sum_cons, List.sum_nil, Option.toList_some, Option.toList_none, List.cons_append, List.nil_append, List.length_cons, List.length_nil, List.getD_cons_succ, List.getD_cons_zero, List.set_cons_succ, List.set_cons_zero, Nat.reduceAdd, Nat.reduceLT, Nat.reduceLeDiff, Nat.zero_le, Nat.zero_add, Nat.add_zero]
  by_cases z1 : x < 0
  · rw [if_pos z1] at K
    simp only [k_86_0, k_86_1, k_86_21, k_86_22, z1, if_true, am_cat, am_kill, Value.category, List.map_cons, List.map_nil, List.sum_cons, List.sum_nil, Option.toList_some, Option.toList_none, List.cons_append, List.nil_append, List.length_cons, List.length_nil, List.getD_cons_succ, List.getD_cons_zero, List.set_cons_succ, List.set_cons_zero, Nat.reduceAdd, Nat.reduceLT, Nat.reduceLeDiff, Nat.zero_le, Nat.zero_add, Nat.add_zero]
    simp only [k_85_8, am_cat, am_kill, Value.category, List.map_cons, List.map_nil, List.sum_cons, List.sum_nil, Option.toList_some, Option.toList_none, List.cons_append, List.nil_append, List.length_cons, List.length_nil, List.getD_cons_succ, List.getD_cons_zero, List.set_cons_succ, List.set_cons_zero, Nat.reduceAdd, Nat.reduceLT, Nat.reduceLeDiff, Nat.zero_le, Nat.zero_add, Nat.add_zero]
    exact K
  rw [if_neg z1] at K
  obtain ⟨m, hm, rfl⟩ := nI_of z1
  rw [nI_clamp hm] at K
  have e1 : (nI m < nI Ls.length) ↔ m < Ls.length := nI_ltI hm (by omega)
  by_cases z2 : m < Ls.length
  · rw [if_pos z2] at K
    have o1 : okA am_isI h st (nI m) := ⟨_, _, x3, rfl, z1, by rw [nI_clamp hm]; omega⟩
    have o2 : arr h st (nI m) = .int (nI (tx (Ls.take m)).length) := by rw [arr_of x3, nI_clamp hm, List.getD_eq_getElem?_getD, x6 m z2]; rfl
    simp only [k_86_0, k_86_1, k_86_4, k_86_5, k_86_5N, k_86_9, k_86_12, k_86_12N, k_86_16, k_86_6, k_86_13, okG_iff x1, fld_of x1, z1, e1, z2, if_true, if_false, am_cat, am_kill, Value.category, List.map_cons, List.map_nil, List.sum_cons, List.sum_nil, Option.toList_some, Option.toList_none, List.cons_append, List.nil_append, List.length_cons, List.length_nil, List.getD_cons_succ, List.getD_cons_zero, List.set_cons_succ, List.set_cons_zero, Nat.reduceAdd, Nat.reduceLT, Nat.reduceLeDiff, Nat.zero_le, Nat.zero_add, Nat.add_zero]
    rw [k_86_17 o1, o2]
    simp only [k_86_18, k_86_22, am_cat, am_kill, Value.category, List.map_cons, List.map_nil, List.sum_cons, List.sum_nil, Option.toList_some, Option.toList_none, List.cons_append, List.nil_append, List.length_cons, List.length_nil, List.getD_cons_succ, List.getD_cons_zero, List.set_cons_succ, List.set_cons_zero, Nat.reduceAdd, Nat.reduceLT, Nat.reduceLeDiff, Nat.zero_le, Nat.zero_add, Nat.add_zero]
    simp only [k_85_8, am_cat, am_kill, Value.category, List.map_cons, List.map_nil, List.sum_cons, List.sum_nil, Option.toList_some, Option.toList_none, List.cons_append, List.nil_append, List.length_cons, List.length_nil, List.getD_cons_succ, List.getD_cons_zero, List.set_cons_succ, List.set_cons_zero, Nat.reduceAdd, Nat.reduceLT, Nat.reduceLeDiff, Nat.zero_le, Nat.zero_add, Nat.add_zero]
    exact K
  · rw [if_neg z2] at K
    simp only [k_86_0, k_86_1, k_86_4, k_86_5, k_86_5N, k_86_9, k_86_21, k_86_22, k_86_6, okG_iff x1, fld_of x1, z1, e1, z2, if_false, am_cat, am_kill, Value.category, List.map_cons, List.map_nil, List.sum_cons, List.sum_nil, Option.toList_some, Option.toList_none, List.cons_append, List.nil_append, List.length_cons, List.length_nil, List.getD_cons_succ, List.getD_cons_zero, List.set_cons_succ, List.set_cons_zero, Nat.reduceAdd, Nat.reduceLT, Nat.reduceLeDiff, Nat.zero_le, Nat.zero_add, Nat.add_zero]
    simp only [k_85_8, am_cat, am_kill, Value.category, List.map_cons, List.map_nil, List.sum_cons, List.sum_nil, Option.toList_some, Option.toList_none, List.cons_append, List.nil_append, List.length_cons, List.length_nil, List.getD_cons_succ, List.getD_cons_zero, List.set_cons_succ, List.set_cons_zero, Nat.reduceAdd, Nat.reduceLT, Nat.reduceLeDiff, Nat.zero_le, Nat.zero_add, Nat.add_zero]
    exact K
theorem co_count {x : Int32} (C : CI B s k h) (K : ∀ h', CI B (oCount x s).1 (k + 1) h' → Fm h h' → Q (some (.int (oCount x s).2)) h') : wp (d + 2) 87 0 [some (.ref 105), some (.int x)] [] h Q := by
  obtain ⟨W, L, R, τ, D, T, tk, Ls, br⟩ := s
  have K := K h (C.up (Nat.le_succ k)) Fm.rf
  obtain ⟨ra, rt, a1, a2, a3, a4, st, u, c0, c1, c2, c3, c4, vs, ss, q1, ⟨H, hc0⟩, q3, q4, q5, ⟨bs, s1, -⟩, ⟨x1, x2, x3⟩, -⟩ := C
  have X : h[105]? = some (.inr 0, [.ref 106, .ref ra, .ref rt, .ref 111, .ref 123, .ref 125, .ref 127, .ref 129, .ref 131, .int tk]) := q1
  have Y := q3.b1
  unfold oCount at K
  dsimp only at K
  simp only [k_87_0, k_87_1, am_cat, am_kill, Value.category, List.map_cons, List.map_nil, List.sum_cons, List.sum_nil, Option.toList_some, Option.toList_none, List.cons_append, List.nil_append, List.length_cons, List.length_nil, List.getD_cons_succ, List.getD_cons_zero, List.set_cons_succ, List.set_cons_zero, Nat.reduceAdd, Nat.reduceLT, Nat.reduceLeDiff, Nat.zero_le, Nat.zero_add, Nat.add_zero]
  by_cases y0 : x = 0
  · rw [if_pos y0] at K ⊢
    simp only [k_87_48, k_87_48N, k_87_49, k_87_52, okG_iff X, fld_of X, okV_iff s1, am_cat, am_kill, Value.category, List.map_cons, List.map_nil, List.sum_cons, List.sum_nil, Option.toList_some, Option.toList_none, List.cons_append, List.nil_append, List.length_cons, List.length_nil, List.getD_cons_succ, List.getD_cons_zero, List.set_cons_succ, List.set_cons_zero, Nat.reduceAdd, Nat.reduceLT, Nat.reduceLeDiff, Nat.zero_le, Nat.zero_add, Nat.add_zero]
    simp only [k_70_0, k_70_0N, k_70_4, k_70_1, okG_iff s1, fld_of s1, am_cat, am_kill, Value.category, List.map_cons, List.map_nil, List.sum_cons, List.sum_nil, Option.toList_some, Option.toList_none, List.cons_append, List.nil_append, List.length_cons, List.length_nil, List.getD_cons_succ, List.getD_cons_zero, List.set_cons_succ, List.set_cons_zero, Nat.reduceAdd, Nat.reduceLT, Nat.reduceLeDiff, Nat.zero_le, Nat.zero_add, Nat.add_zero]
    simp only [k_87_55, am_cat, am_kill, Value.category, List.map_cons, List.map_nil, List.sum_cons, List.sum_nil, Option.toList_some, Option.toList_none, List.cons_append, List.nil_append, List.length_cons, List.length_nil, List.getD_cons_succ, List.getD_cons_zero, List.set_cons_succ, List.set_cons_zero, Nat.reduceAdd, Nat.reduceLT, Nat.reduceLeDiff, Nat.zero_le, Nat.zero_add, Nat.add_zero]
    exact K
  rw [if_neg y0] at K ⊢
  by_cases y1 : x = 1
  · rw [if_pos y1] at K ⊢
    simp only [k_87_56, k_87_56N, k_87_57, k_87_60, okG_iff X, fld_of X, okV_iff H.1, sp_len H, am_cat, am_kill, Value.category, List.map_cons, List.map_nil, List.sum_cons, List.sum_nil, Option.toList_some, Option.toList_none, List.cons_append, List.nil_append, List.length_cons, List.length_nil, List.getD_cons_succ, List.getD_cons_zero, List.set_cons_succ, List.set_cons_zero, Nat.reduceAdd, Nat.reduceLT, Nat.reduceLeDiff, Nat.zero_le, Nat.zero_add, Nat.add_zero]
    simp only [k_87_63, am_cat, am_kill, Value.category, List.map_cons, List.map_nil, List.sum_cons, List.sum_nil, Option.toList_some, Option.toList_none, List.cons_append, List.nil_append, List.length_cons, List.length_nil, List.getD_cons_succ, List.getD_cons_zero, List.set_cons_succ, List.set_cons_zero, Nat.reduceAdd, Nat.reduceLT, Nat.reduceLeDiff, Nat.zero_le, Nat.zero_add, Nat.add_zero]
    exact K
  rw [if_neg y1] at K ⊢
  by_cases y2 : x = 2
  · rw [if_pos y2] at K ⊢
    simp only [k_87_64, k_87_64N, k_87_65, k_87_68, okG_iff X, fld_of X, okV_iff Y, am_cat, am_kill, Value.category, List.map_cons, List.map_nil, List.sum_cons, List.sum_nil, Option.toList_some, Option.toList_none, List.cons_append, List.nil_append, List.length_cons, List.length_nil, List.getD_cons_succ, List.getD_cons_zero, List.set_cons_succ, List.set_cons_zero, Nat.reduceAdd, Nat.reduceLT, Nat.reduceLeDiff, Nat.zero_le, Nat.zero_add, Nat.add_zero]
    simp only [k_26_0, k_26_0N, k_26_4, k_26_4N, k_26_1, okG_iff Y, fld_of Y, am_cat, am_kill, Value.category, List.map_cons, List.map_nil, List.sum_cons, List.sum_nil, Option.toList_some, Option.toList_none, List.cons_append, List.nil_append, List.length_cons, List.length_nil, List.getD_cons_succ, List.getD_cons_zero, List.set_cons_succ, List.set_cons_zero, Nat.reduceAdd, Nat.reduceLT, Nat.reduceLeDiff, Nat.zero_le, Nat.zero_add, Nat.add_zero]
    simp only [k_87_71, okV_iff q4.1, sp_dsize q4, am_cat, am_kill, Value.category, List.map_cons, List.map_nil, List.sum_cons, List.sum_nil, Option.toList_some, Option.toList_none, List.cons_append, List.nil_append, List.length_cons, List.length_nil, List.getD_cons_succ, List.getD_cons_zero, List.set_cons_succ, List.set_cons_zero, Nat.reduceAdd, Nat.reduceLT, Nat.reduceLeDiff, Nat.zero_le, Nat.zero_add, Nat.add_zero]
    simp only [k_87_74, am_cat, am_kill, Value.category, List.map_cons, List.map_nil, List.sum_cons, List.sum_nil, Option.toList_some, Option.toList_none, List.cons_append, List.nil_append, List.length_cons, List.length_nil, List.getD_cons_succ, List.getD_cons_zero, List.set_cons_succ, List.set_cons_zero, Nat.reduceAdd, Nat.reduceLT, Nat.reduceLeDiff, Nat.zero_le, Nat.zero_add, Nat.add_zero]
    exact K
  rw [if_neg y2] at K ⊢
  by_cases y3 : x = 3
  · rw [if_pos y3] at K ⊢
    simp only [k_87_75, k_87_75N, k_87_76, k_87_79, okG_iff X, fld_of X, okV_iff x1, am_cat, am_kill, Value.category, List.map_cons, List.map_nil, List.sum_cons, List.sum_nil, Option.toList_some, Option.toList_none, List.cons_append, List.nil_append, List.length_cons, List.length_nil, List.getD_cons_succ, List.getD_cons_zero, List.set_cons_succ, List.set_cons_zero, Nat.reduceAdd, Nat.reduceLT, Nat.reduceLeDiff, Nat.zero_le, Nat.zero_add, Nat.add_zero]
    simp only [k_82_0, k_82_0N, k_82_1, k_82_4, okG_iff x1, fld_of x1, okV_iff x2.1, sp_len x2, am_cat, am_kill, Value.category, List.map_cons, List.map_nil, List.sum_cons, List.sum_nil, Option.toList_some, Option.toList_none, List.cons_append, List.nil_append, List.length_cons, List.length_nil, List.getD_cons_succ, List.getD_cons_zero, List.set_cons_succ, List.set_cons_zero, Nat.reduceAdd, Nat.reduceLT, Nat.reduceLeDiff, Nat.zero_le, Nat.zero_add, Nat.add_zero]
    simp only [k_82_7, am_cat, am_kill, Value.category, List.map_cons, List.map_nil, List.sum_cons, List.sum_nil, Option.toList_some, Option.toList_none, List.cons_append, List.nil_append, List.length_cons, List.length_nil, List.getD_cons_succ, List.getD_cons_zero, List.set_cons_succ, List.set_cons_zero, Nat.reduceAdd, Nat.reduceLT, Nat.reduceLeDiff, Nat.zero_le, Nat.zero_add, Nat.add_zero]
    simp only [k_87_82, am_cat, am_kill, Value.category, List.map_cons, List.map_nil, List.sum_cons, List.sum_nil, Option.toList_some, Option.toList_none, List.cons_append, List.nil_append, List.length_cons, List.length_nil, List.getD_cons_succ, List.getD_cons_zero, List.set_cons_succ, List.set_cons_zero, Nat.reduceAdd, Nat.reduceLT, Nat.reduceLeDiff, Nat.zero_le, Nat.zero_add, Nat.add_zero]
    exact K
  rw [if_neg y3] at K ⊢
  by_cases y4 : x = 4
  · rw [if_pos y4] at K ⊢
    simp only [k_87_83, k_87_83N, k_87_84, k_87_87, okG_iff X, fld_of X, okV_iff x1, am_cat, am_kill, Value.category, List.map_cons, List.map_nil, List.sum_cons, List.sum_nil, Option.toList_some, Option.toList_none, List.cons_append, List.nil_append, List.length_cons, List.length_nil, List.getD_cons_succ, List.getD_cons_zero, List.set_cons_succ, List.set_cons_zero, Nat.reduceAdd, Nat.reduceLT, Nat.reduceLeDiff, Nat.zero_le, Nat.zero_add, Nat.add_zero]
    simp only [k_88_0, k_88_0N, k_88_4, k_88_1, okG_iff x1, fld_of x1, am_cat, am_kill, Value.category, List.map_cons, List.map_nil, List.sum_cons, List.sum_nil, Option.toList_some, Option.toList_none, List.cons_append, List.nil_append, List.length_cons, List.length_nil, List.getD_cons_succ, List.getD_cons_zero, List.set_cons_succ, List.set_cons_zero, Nat.reduceAdd, Nat.reduceLT, Nat.reduceLeDiff, Nat.zero_le, Nat.zero_add, Nat.add_zero]
    simp only [k_87_90, am_cat, am_kill, Value.category, List.map_cons, List.map_nil, List.sum_cons, List.sum_nil, Option.toList_some, Option.toList_none, List.cons_append, List.nil_append, List.length_cons, List.length_nil, List.getD_cons_succ, List.getD_cons_zero, List.set_cons_succ, List.set_cons_zero, Nat.reduceAdd, Nat.reduceLT, Nat.reduceLeDiff, Nat.zero_le, Nat.zero_add, Nat.add_zero]
    exact K
  rw [if_neg y4] at K ⊢
  by_cases y5 : x = 5
  · rw [if_pos y5] at K ⊢
    simp only [k_87_91, k_87_91N, k_87_92, k_87_95, okG_iff X, fld_of X, okV_iff x1, am_cat, am_kill, Value.category, List.map_cons, List.map_nil, List.sum_cons, List.sum_nil, Option.toList_some, Option.toList_none, List.cons_append, List.nil_append, List.length_cons, List.length_nil, List.getD_cons_succ, List.getD_cons_zero, List.set_cons_succ, List.set_cons_zero, Nat.reduceAdd, Nat.reduceLT, Nat.reduceLeDiff, Nat.zero_le, Nat.zero_add, Nat.add_zero]
    simp only [k_89_0, k_89_0N, k_89_4, k_89_1, okG_iff x1, fld_of x1, am_cat, am_kill, Value.category, List.map_cons, List.map_nil, List.sum_cons, List.sum_nil, Option.toList_some, Option.toList_none, List.cons_append, List.nil_append, List.length_cons, List.length_nil, List.getD_cons_succ, List.getD_cons_zero, List.set_cons_succ, List.set_cons_zero, Nat.reduceAdd, Nat.reduceLT, Nat.reduceLeDiff, Nat.zero_le, Nat.zero_add, Nat.add_zero]
    simp only [k_87_98, am_cat, am_kill, Value.category, List.map_cons, List.map_nil, List.sum_cons, List.sum_nil, Option.toList_some, Option.toList_none, List.cons_append, List.nil_append, List.length_cons, List.length_nil, List.getD_cons_succ, List.getD_cons_zero, List.set_cons_succ, List.set_cons_zero, Nat.reduceAdd, Nat.reduceLT, Nat.reduceLeDiff, Nat.zero_le, Nat.zero_add, Nat.add_zero]
    exact K
  rw [if_neg y5] at K ⊢
  by_cases y6 : x = 6
  · rw [if_pos y6] at K ⊢
    simp only [k_87_99, k_87_99N, k_87_100, k_87_103, okG_iff X, fld_of X, okV_iff x1, am_cat, am_kill, Value.category, List.map_cons, List.map_nil, List.sum_cons, List.sum_nil, Option.toList_some, Option.toList_none, List.cons_append, List.nil_append, List.length_cons, List.length_nil, List.getD_cons_succ, List.getD_cons_zero, List.set_cons_succ, List.set_cons_zero, Nat.reduceAdd, Nat.reduceLT, Nat.reduceLeDiff, Nat.zero_le, Nat.zero_add, Nat.add_zero]
    simp only [k_90_0, k_90_0N, k_90_4, k_90_1, okG_iff x1, fld_of x1, am_cat, am_kill, Value.category, List.map_cons, List.map_nil, List.sum_cons, List.sum_nil, Option.toList_some, Option.toList_none, List.cons_append, List.nil_append, List.length_cons, List.length_nil, List.getD_cons_succ, List.getD_cons_zero, List.set_cons_succ, List.set_cons_zero, Nat.reduceAdd, Nat.reduceLT, Nat.reduceLeDiff, Nat.zero_le, Nat.zero_add, Nat.add_zero]
    simp only [k_87_106, am_cat, am_kill, Value.category, List.map_cons, List.map_nil, List.sum_cons, List.sum_nil, Option.toList_some, Option.toList_none, List.cons_append, List.nil_append, List.length_cons, List.length_nil, List.getD_cons_succ, List.getD_cons_zero, List.set_cons_succ, List.set_cons_zero, Nat.reduceAdd, Nat.reduceLT, Nat.reduceLeDiff, Nat.zero_le, Nat.zero_add, Nat.add_zero]
    exact K
  rw [if_neg y6] at K ⊢
  by_cases y7 : x = 7
  · rw [if_pos y7] at K ⊢
    simp only [k_87_107, k_87_107N, k_87_108, k_87_111, okG_iff X, fld_of X, okV_iff s1, am_cat, am_kill, Value.category, List.map_cons, List.map_nil, List.sum_cons, List.sum_nil, Option.toList_some, Option.toList_none, List.cons_append, List.nil_append, List.length_cons, List.length_nil, List.getD_cons_succ, List.getD_cons_zero, List.set_cons_succ, List.set_cons_zero, Nat.reduceAdd, Nat.reduceLT, Nat.reduceLeDiff, Nat.zero_le, Nat.zero_add, Nat.add_zero]
    simp only [k_91_0, k_91_0N, k_91_4, k_91_1, okG_iff s1, fld_of s1, am_cat, am_kill, Value.category, List.map_cons, List.map_nil, List.sum_cons, List.sum_nil, Option.toList_some, Option.toList_none, List.cons_append, List.nil_append, List.length_cons, List.length_nil, List.getD_cons_succ, List.getD_cons_zero, List.set_cons_succ, List.set_cons_zero, Nat.reduceAdd, Nat.reduceLT, Nat.reduceLeDiff, Nat.zero_le, Nat.zero_add, Nat.add_zero]
    simp only [k_87_114, am_cat, am_kill, Value.category, List.map_cons, List.map_nil, List.sum_cons, List.sum_nil, Option.toList_some, Option.toList_none, List.cons_append, List.nil_append, List.length_cons, List.length_nil, List.getD_cons_succ, List.getD_cons_zero, List.set_cons_succ, List.set_cons_zero, Nat.reduceAdd, Nat.reduceLT, Nat.reduceLeDiff, Nat.zero_le, Nat.zero_add, Nat.add_zero]
    exact K
  rw [if_neg y7] at K ⊢
  simp only [k_87_115, k_87_116, am_cat, am_kill, Value.category, List.map_cons, List.map_nil, List.sum_cons, List.sum_nil, Option.toList_some, Option.toList_none, List.cons_append, List.nil_append, List.length_cons, List.length_nil, List.getD_cons_succ, List.getD_cons_zero, List.set_cons_succ, List.set_cons_zero, Nat.reduceAdd, Nat.reduceLT, Nat.reduceLeDiff, Nat.zero_le, Nat.zero_add, Nat.add_zero]
  exact K
end CO
