/-! THE PROGRAM BUILDS A BODY AND KEEPS IT -/
theorem BI.start {g : AH} {a ar0 u : Nat} {cs0 vs : List Value} {D : List Int32} (H : Chs g a ar0 [] cs0) (X : Dat g 112 113 D (min u D.length) vs) : BI g a ar0 cs0 D vs g [] u := ⟨⟨ar0, cs0, H, Or.inl rfl, Nat.le_refl _, Nat.le_refl _, Nat.le_refl _, Or.inl (Nat.le_refl _)⟩, ⟨Nat.le_refl _, fun _ _ _ _ _ => rfl⟩, X, ⟨[], H⟩, ⟨_, X.1⟩⟩
/-- how a buffer goes on -/
def Bgo (h h' : AH) (a ar : Nat) (c : List Value) (ar' : Nat) (t' : List Int32) (c' : List Value) (m : Nat) : Prop := Chs h' a ar' t' c' ∧ (ar' = ar ∨ h.length ≤ ar') ∧ h'.length + c.length ≤ h.length + c'.length ∧ am_sz h' + 2 * c.length ≤ am_sz h + 2 * c'.length ∧ c.length ≤ c'.length ∧ (c'.length ≤ c.length ∨ c'.length ≤ m)
section KB
variable {B k d : Nat} {h : AH} {Q : Option Value → AH → Prop} {R : List (List Ty)} {τ : Ty} {ra rt : Nat} {tk : Int32} {D : List Int32} {vs : List Value}
theorem st_call {u a1 : Nat} {t1 : List Int32} {c1 : List Value} (TY : Tys h R τ ra rt) (hok : ∀ σ ∈ R.getD 4 [], okT σ) (DT : Dat h 112 113 D u vs) (C1 : Chs h 123 a1 t1 c1) (K : ∀ h' a' t' c', Bgo h h' 123 a1 c1 a' t' c' 14000 → Dat h' 112 113 D (min (callT D R (R.getD 4 [])).2 D.length) vs → Fr (fun b => b = 112 ∨ b = 123 ∨ b = a1) h h' → Cut D (callT D R (R.getD 4 [])).1 t' (callT D R (R.getD 4 [])).2 → t'.length ≤ 7000 → Q none h') : wp (d + 60) 33 0 [some (.ref 111), some (.ref ra), some (.ref 123)] [] h Q := by
  have Y := TY.b1
  have hN := sN5
  obtain ⟨v1, v2, v3, v4, v5, v6, v7, v8⟩ := id DT
  simp only [k_33_0, k_33_0N, k_33_1, k_33_4, okG_iff Y, fld_of Y, okV_iff v1, sp_rewind DT, am_cat, am_kill, Value.category, List.map_cons, List.map_nil, List.sum_cons, List.sum_nil, Option.toList_some, Option.toList_none, List.cons_append, List.nil_append, List.length_cons, List.length_nil, List.getD_cons_succ, List.getD_cons_zero, List.set_cons_succ, List.set_cons_zero, Nat.reduceAdd, Nat.reduceLT, Nat.reduceLeDiff, Nat.zero_le, Nat.zero_add, Nat.add_zero]
  have D1 : Dat (h.set 112 (.inr 5, [.ref 113, .int (nI D.length), .int (nI 0)])) 112 113 D 0 vs := ⟨get_set_eq v1, by rw [get_set_ne (by decide)]; exact v2, v3, v4, v5, Nat.zero_le _, v7, v8⟩
  have F1 : Fr (fun b => b = 112) h (h.set 112 (.inr 5, [.ref 113, .int (nI D.length), .int (nI 0)])) := Fr.set
  have z1 := sz_set (vs' := [.ref 113, .int (nI D.length), .int (nI 0)]) v1 rfl
  have l1 : (h.set 112 (.inr 5, [.ref 113, .int (nI D.length), .int (nI 0)])).length = h.length := List.length_set ..
  generalize h.set 112 (.inr 5, [.ref 113, .int (nI D.length), .int (nI 0)]) = h1 at D1 F1 z1 l1
  have ha : a1 ≠ 112 := fun e => by have := C1.2.1; rw [e, v1] at this; cases this
  have C2 := C1.fr F1 (by omega) ha
  simp only [k_33_7, k_33_7N, k_33_8, okV_iff C2.1, am_cat, am_kill, Value.category, List.map_cons, List.map_nil, List.sum_cons, List.sum_nil, Option.toList_some, Option.toList_none, List.cons_append, List.nil_append, List.length_cons, List.length_nil, List.getD_cons_succ, List.getD_cons_zero, List.set_cons_succ, List.set_cons_zero, Nat.reduceAdd, Nat.reduceLT, Nat.reduceLeDiff, Nat.zero_le, Nat.zero_add, Nat.add_zero]
  refine sp_empty2 C2 (fun h2 C3 z2 l2 F2 => ?_)
  have D2 := D1.fr F2 (by omega) (by omega)
  have F3 : Fr (fun b => b = 112 ∨ b = 123) h h2 := Fr.tr (F1.mono (fun b _ z => Or.inl z)) F2 (fun b _ z => Or.inr z)
  have kp := F3.kp (fun b z => by
    rcases z with rfl | rfl
    · exact ⟨by omega, _, v1, kn_d⟩
    · exact ⟨by omega, _, C1.1, kn_c⟩)
  have TY2 := TY.fr F3 kp (by omega) (by omega)
  obtain ⟨qa, RW⟩ := TY2.1
  refine bi_call rnd_b TY2.2.2.2 RW hok (BI.start C3 (by rw [Nat.zero_min]; exact D2)) (fun h3 t3 B3 Cu l3 => ?_)
  obtain ⟨ar', cs', C4, w1, w2, w3, w4, w5⟩ := B3.1
  refine K h3 ar' t3 cs' ⟨C4, by omega, by omega, by omega, w4, by omega⟩ B3.2.2.1 (Fr.tr (F3.mono (fun b _ z => z.elim Or.inl (fun y => Or.inr (Or.inl y)))) (Fr.bi B3) (fun b _ z => by omega)) Cu l3
theorem st_out {u a2 : Nat} {t2 : List Int32} {c2 : List Value} (TY : Tys h R τ ra rt) (hτ : okT τ ∨ τ = (0, 86, 0)) (DT : Dat h 112 113 D (min u D.length) vs) (C1 : Chs h 125 a2 t2 c2) (K : ∀ h' a' t' c', Bgo h h' 125 a2 c2 a' t' c' 14000 → Dat h' 112 113 D (min (outT D R τ u).2 D.length) vs → Fr (fun b => b = 112 ∨ b = 125 ∨ b = a2) h h' → Cut D (outT D R τ u).1 t' (outT D R τ u).2 → t'.length ≤ 7000 → Q none h') : wp (d + 60) 55 0 [some (.ref 111), some (.ref rt), some (.ref 125)] [] h Q := by
  have hN := sN5
  have v1 := DT.1
  simp only [k_55_0, k_55_0N, k_55_1, okV_iff C1.1, am_cat, am_kill, Value.category, List.map_cons, List.map_nil, List.sum_cons, List.sum_nil, Option.toList_some, Option.toList_none, List.cons_append, List.nil_append, List.length_cons, List.length_nil, List.getD_cons_succ, List.getD_cons_zero, List.set_cons_succ, List.set_cons_zero, Nat.reduceAdd, Nat.reduceLT, Nat.reduceLeDiff, Nat.zero_le, Nat.zero_add, Nat.add_zero]
  refine sp_empty2 C1 (fun h2 C3 z2 l2 F2 => ?_)
  have D2 := DT.fr F2 (by omega) (by omega)
  have kp := F2.kp (fun b z => by
    rcases z with rfl
    exact ⟨by omega, _, C1.1, kn_c⟩)
  have TY2 := TY.fr F2 kp (by omega) (by omega)
  refine bi_out rnd_b TY2.2.2.2 TY2.2.1 TY2.2.2.1 hτ (BI.start C3 D2) (fun h3 t3 B3 Cu l3 => ?_)
  obtain ⟨ar', cs', C4, w1, w2, w3, w4, w5⟩ := B3.1
  refine K h3 ar' t3 cs' ⟨C4, by omega, by omega, by omega, w4, by omega⟩ B3.2.2.1 (Fr.tr (F2.mono (fun b _ z => Or.inr (Or.inl z))) (Fr.bi B3) (fun b _ z => by omega)) Cu l3
theorem asT_le (τ : Ty) (lit call : List Int32) : (asT τ lit call).length ≤ 103 + lit.length + call.length := by
  have a1 := sxl 31
  have a2 := sxl 32
  have a3 := sxl 34
  have a4 := sxl 35
  have a5 := sxl 36
  have a6 := sxl 37
  have a7 : (sfx τ).length ≤ 25 := by
    unfold sfx
    split
    · exact sxl _
    · split
      · exact sxl _
      · exact sxl _
  by_cases hv : τ.1 = 0 ∧ τ.2.1 = 86
  · rw [asT_V hv]
    simp only [List.length_append, List.length_cons, List.length_nil]
    omega
  · rw [asT_N hv]
    unfold asP
    split
    · split
      · simp only [List.length_append, List.length_cons, List.length_nil]; omega
      · simp only [List.length_append, List.length_cons, List.length_nil]; omega
    · split
      · simp only [List.length_append, List.length_cons, List.length_nil]; omega
      · split
        · simp only [List.length_append, List.length_cons, List.length_nil]; omega
        · simp only [List.length_append, List.length_cons, List.length_nil]; omega
theorem st_assert {u a1 a2 a3 : Nat} {tc tl t3 : List Int32} {c1 c2 c3 : List Value} (X : X105 h ra rt tk) (TY : Tys h R τ ra rt) (hτ : okT τ ∨ τ = (0, 86, 0)) (DT : Dat h 112 113 D (min u D.length) vs) (C1 : Chs h 123 a1 tc c1) (C2 : Chs h 125 a2 tl c2) (C3 : Chs h 127 a3 t3 c3) (n1 : a1 ≠ a3) (n2 : a2 ≠ a3) (l1 : tc.length ≤ 7000) (l2 : tl.length ≤ 7000) (K : ∀ h' a' c', Bgo h h' 127 a3 c3 a' (asT τ tl tc) c' 40000 → Dat h' 112 113 D (min u D.length) vs → Fr (fun b => b = 112 ∨ b = 127 ∨ b = a3) h h' → Q none h') : wp (d + 8) 58 0 [some (.ref 105)] [] h Q := by
  have X1 : h[105]? = some (.inr 0, [.ref 106, .ref ra, .ref rt, .ref 111, .ref 123, .ref 125, .ref 127, .ref 129, .ref 131, .int tk]) := X
  have hN := sN5
  simp only [k_58_0, k_58_0N, k_58_1, k_58_4, okG_iff X1, fld_of X1, okV_iff C3.1, am_cat, am_kill, Value.category, List.map_cons, List.map_nil, List.sum_cons, List.sum_nil, Option.toList_some, Option.toList_none, List.cons_append, List.nil_append, List.length_cons, List.length_nil, List.getD_cons_succ, List.getD_cons_zero, List.set_cons_succ, List.set_cons_zero, Nat.reduceAdd, Nat.reduceLT, Nat.reduceLeDiff, Nat.zero_le, Nat.zero_add, Nat.add_zero]
  refine sp_empty2 C3 (fun h2 C4 z2 l2' F2 => ?_)
  have D2 := DT.fr F2 (by omega) (by omega)
  have kp := F2.kp (fun b z => by
    rcases z with rfl
    exact ⟨by omega, _, C3.1, kn_c⟩)
  have TY2 := TY.fr F2 kp (by omega) (by omega)
  have e1 := (C1.ne C3).2
  have e2 := (C2.ne C3).2
  have h31 : τ.1 < 2 ^ 31 := by
    rcases hτ with q | q
    · have := q.1
      omega
    · rw [q]
      decide
  have ln := asT_le τ tl tc
  refine bi_assert TY2.2.2.2.1 (F2.get X1 (by omega)) TY2.2.1 h31 (BI.start C4 D2) (C1.fr F2 (by omega) e1) (C2.fr F2 (by omega) e2) n1 n2 l1 l2 (fun h3 B3 => ?_)
  obtain ⟨ar', cs', C5, w1, w2, w3, w4, w5⟩ := B3.1
  refine K h3 ar' cs' ⟨C5, by omega, by omega, by omega, w4, by omega⟩ B3.2.2.1 (Fr.tr (F2.mono (fun b _ z => Or.inr (Or.inl z))) (Fr.bi B3) (fun b _ z => by omega))
theorem st_catch {u a1 a3 : Nat} {tc nm t3 : List Int32} {c0 c1 c3 : List Value} (X : X105 h ra rt tk) (S : Sta h) (DT : Dat h 112 113 D (min u D.length) vs) (C1 : Chs h 123 a1 tc c1) (C2 : Chs h 106 107 nm c0) (C3 : Chs h 127 a3 t3 c3) (n1 : a1 ≠ a3) (n2 : 107 ≠ a3) (l1 : tc.length ≤ 7000) (l2 : nm.length ≤ 40) (K : ∀ h' a' c', Bgo h h' 127 a3 c3 a' (ctT nm tc) c' 40000 → Dat h' 112 113 D (min u D.length) vs → Fr (fun b => b = 112 ∨ b = 127 ∨ b = a3) h h' → Q none h') : wp (d + 8) 67 0 [some (.ref 105)] [] h Q := by
  have X1 : h[105]? = some (.inr 0, [.ref 106, .ref ra, .ref rt, .ref 111, .ref 123, .ref 125, .ref 127, .ref 129, .ref 131, .int tk]) := X
  have hN := sN5
  simp only [k_67_0, k_67_0N, k_67_1, k_67_4, okG_iff X1, fld_of X1, okV_iff C3.1, am_cat, am_kill, Value.category, List.map_cons, List.map_nil, List.sum_cons, List.sum_nil, Option.toList_some, Option.toList_none, List.cons_append, List.nil_append, List.length_cons, List.length_nil, List.getD_cons_succ, List.getD_cons_zero, List.set_cons_succ, List.set_cons_zero, Nat.reduceAdd, Nat.reduceLT, Nat.reduceLeDiff, Nat.zero_le, Nat.zero_add, Nat.add_zero]
  refine sp_empty2 C3 (fun h2 C4 z2 l2' F2 => ?_)
  have D2 := DT.fr F2 (by omega) (by omega)
  have kp := F2.kp (fun b z => by
    rcases z with rfl
    exact ⟨by omega, _, C3.1, kn_c⟩)
  have e1 := (C1.ne C3).2
  have ln : (ctT nm tc).length = 43 + tc.length + 2 * nm.length := by
    unfold ctT
    simp only [List.length_append]
    rw [show (sx 42).length = 10 from rfl, show (sx 43).length = 12 from rfl, show (sx 44).length = 13 from rfl, show (sx 45).length = 8 from rfl]
    omega
  refine bi_catch (S.kp kp) (F2.get X1 (by omega)) (BI.start C4 D2) (C1.fr F2 (by omega) e1) (C2.fr F2 (by omega) (by omega)) n1 n2 l1 l2 (fun h3 B3 => ?_)
  obtain ⟨ar', cs', C5, w1, w2, w3, w4, w5⟩ := B3.1
  refine K h3 ar' cs' ⟨C5, by omega, by omega, by omega, w4, by omega⟩ B3.2.2.1 (Fr.tr (F2.mono (fun b _ z => Or.inr (Or.inl z))) (Fr.bi B3) (fun b _ z => by omega))
theorem sp_full {T : List Tst1} {G : Nat → Prop} (S : Sui h T G) (hT : T.length ≤ 20) : wp d 32 0 [some (.ref 129)] [] h Q ↔ Q (some (.int (if T.length = 20 then 1 else 0))) h := by
  obtain ⟨bs, s1, s2, s3, s4⟩ := S
  have e1 : (nI T.length < 20) ↔ T.length < 20 := nI_ltI (b := 20) (by omega) (by omega)
  simp only [k_32_0, k_32_0N, k_32_4, k_32_6, k_32_1, okG_iff s1, fld_of s1, e1, am_cat, am_kill, Value.category, List.map_cons, List.map_nil, List.sum_cons, List.sum_nil, Option.toList_some, Option.toList_none, List.cons_append, List.nil_append, List.length_cons, List.length_nil, List.getD_cons_succ, List.getD_cons_zero, List.set_cons_succ, List.set_cons_zero, Nat.reduceAdd, Nat.reduceLT, Nat.reduceLeDiff, Nat.zero_le, Nat.zero_add, Nat.add_zero]
  by_cases c : T.length = 20
  · rw [if_pos c, if_neg (by omega)]
    simp only [k_32_9, k_32_10, k_32_14, nb1, fb1]
  · rw [if_neg c, if_pos (by omega)]
    simp only [k_32_13, k_32_14, nb0, fb0]
theorem su_hl {T : List Tst1} {G : Nat → Prop} {a2 ar2 : Nat} {y : List Int32} {cs2 : List Value} (S : Sui h T G) (hT : T.length ≤ 20) (H2 : Chs h a2 ar2 y cs2) : ∀ (j i : Nat), i + j = T.length → (wp (d + 1) 62 2 [some (.ref 129), some (.ref a2), some (.int (nI i))] [] h Q ↔ Q (some (.int (if (T.drop i).any (fun b => decide (b.1 = y)) = true then 1 else 0))) h) := by
  obtain ⟨bs, s1, s2, s3, s4⟩ := S
  intro j
  induction j with
  | zero =>
    intro i hi
    obtain rfl : i = T.length := by omega
    have e1 : ¬ nI T.length < nI T.length := nI_nlt (Nat.le_refl _) (by omega)
    simp only [k_62_2, k_62_3, k_62_3N, k_62_7, k_62_31, k_62_32, k_62_4, okG_iff s1, fld_of s1, e1, if_false, nb0, fb0, am_cat, am_kill, Value.category, List.map_cons, List.map_nil, List.sum_cons, List.sum_nil, Option.toList_some, Option.toList_none, List.cons_append, List.nil_append, List.length_cons, List.length_nil, List.getD_cons_succ, List.getD_cons_zero, List.set_cons_succ, List.set_cons_zero, Nat.reduceAdd, Nat.reduceLT, Nat.reduceLeDiff, Nat.zero_le, Nat.zero_add, Nat.add_zero]
    rw [List.drop_length]
    rfl
  | succ j ih =>
    intro i hi
    have hil : i < T.length := by omega
    have e1 : nI i < nI T.length := nI_lt hil (by omega)
    obtain ⟨p, q, cs, p1, p2, p3⟩ := s4 i T[i] (List.getElem?_eq_getElem hil)
    have o1 : okA am_isO h 130 (nI i) := ⟨_, _, s2, rfl, nI_pos (by omega), by rw [nI_clamp (by omega)]; omega⟩
    have o2 : arr h 130 (nI i) = .ref p := by rw [arr_of s2, nI_clamp (by omega), List.getD_eq_getElem?_getD, p1]; rfl
    simp only [k_62_2, k_62_3, k_62_3N, k_62_7, k_62_10, k_62_10N, k_62_14, k_62_4, k_62_11, k_62_15 o1, o2, k_62_16, k_62_16N, k_62_17, okG_iff s1, fld_of s1, okV_iff p2.1, sp_same p2 H2, e1, if_true, am_cat, am_kill, Value.category, List.map_cons, List.map_nil, List.sum_cons, List.sum_nil, Option.toList_some, Option.toList_none, List.cons_append, List.nil_append, List.length_cons, List.length_nil, List.getD_cons_succ, List.getD_cons_zero, List.set_cons_succ, List.set_cons_zero, Nat.reduceAdd, Nat.reduceLT, Nat.reduceLeDiff, Nat.zero_le, Nat.zero_add, Nat.add_zero]
    rw [List.drop_eq_getElem_cons hil, List.any_cons]
    by_cases c : T[i].1 = y
    · have e2 : ¬ (1 : Int32) = 0 := by decide
      simp only [k_62_20, k_62_23, k_62_24, c, decide_true, Bool.true_or, e2, if_true, if_false, nb1, fb1, am_cat, am_kill, Value.category, List.map_cons, List.map_nil, List.sum_cons, List.sum_nil, Option.toList_some, Option.toList_none, List.cons_append, List.nil_append, List.length_cons, List.length_nil, List.getD_cons_succ, List.getD_cons_zero, List.set_cons_succ, List.set_cons_zero, Nat.reduceAdd, Nat.reduceLT, Nat.reduceLeDiff, Nat.zero_le, Nat.zero_add, Nat.add_zero]
    · simp only [k_62_20, k_62_25, k_62_28, c, decide_false, Bool.false_or, if_true, if_false, nI_1, am_cat, am_kill, Value.category, List.map_cons, List.map_nil, List.sum_cons, List.sum_nil, Option.toList_some, Option.toList_none, List.cons_append, List.nil_append, List.length_cons, List.length_nil, List.getD_cons_succ, List.getD_cons_zero, List.set_cons_succ, List.set_cons_zero, Nat.reduceAdd, Nat.reduceLT, Nat.reduceLeDiff, Nat.zero_le, Nat.zero_add, Nat.add_zero]
      exact ih (i + 1) (by omega)
theorem su_holds {T : List Tst1} {G : Nat → Prop} {a2 ar2 : Nat} {y : List Int32} {cs2 : List Value} (S : Sui h T G) (hT : T.length ≤ 20) (H2 : Chs h a2 ar2 y cs2) : wp (d + 1) 62 0 [some (.ref 129), some (.ref a2), none] [] h Q ↔ Q (some (.int (if T.any (fun b => decide (b.1 = y)) = true then 1 else 0))) h := by
  simp only [k_62_0, k_62_1, am_cat, am_kill, Value.category, List.map_cons, List.map_nil, List.sum_cons, List.sum_nil, Option.toList_some, Option.toList_none, List.cons_append, List.nil_append, List.length_cons, List.length_nil, List.getD_cons_succ, List.getD_cons_zero, List.set_cons_succ, List.set_cons_zero, Nat.reduceAdd, Nat.reduceLT, Nat.reduceLeDiff, Nat.zero_le, Nat.zero_add, Nat.add_zero]
  have := su_hl (d := d) (Q := Q) S hT H2 T.length 0 (by omega)
  rw [List.drop_zero] at this
  exact this
theorem cntB_app (T : List Tst1) (b : Tst1) : cntB (T ++ [b]) = cntB T + (if b.2 = true then 1 else 0) := by
  induction T with
  | nil => show (if b.2 = true then 1 else 0) + 0 = 0 + _; omega
  | cons x T ih => show (if x.2 = true then 1 else 0) + cntB (T ++ [b]) = (if x.2 = true then 1 else 0) + cntB T + _; rw [ih]; omega
theorem su_add {T : List Tst1} {G : Nat → Prop} {a3 : Nat} {y : List Int32} {c3 : List Value} {th : Bool} (S : Sui h T G) (hT : T.length < 20) (H : Chs h 127 a3 y c3) (ly : y.length ≤ 300) (hG : ∀ b, G b → b < h.length) (h147 : 147 ≤ h.length) (K : ∀ h', Sui h' (T ++ [(y, th)]) G → Fr (fun b => b = 129 ∨ b = 130) h h' → h'.length ≤ h.length + 302 → am_sz h' ≤ am_sz h + 902 → Q (some (.int (nI T.length))) h') : wp (d + 4) 64 0 [some (.ref 129), some (.ref 127), some (.int (if th = true then 1 else 0))] [] h Q := by
  have hN := sN5
  have hs : sN ≤ 130 := by decide
  have hs2 : sN ≤ 129 := by decide
  obtain ⟨bs, s1, s2, s3, s4⟩ := id S
  have l29 := lt_of_get s1
  have l30 := lt_of_get s2
  have l27 := lt_of_get H.1
  have la3 := lt_of_get H.2.1
  simp only [k_64_0, k_64_0N, k_64_1, okV_iff s1, sp_full S (by omega), show ¬ T.length = 20 by omega, if_false, am_cat, am_kill, Value.category, List.map_cons, List.map_nil, List.sum_cons, List.sum_nil, Option.toList_some, Option.toList_none, List.cons_append, List.nil_append, List.length_cons, List.length_nil, List.getD_cons_succ, List.getD_cons_zero, List.set_cons_succ, List.set_cons_zero, Nat.reduceAdd, Nat.reduceLT, Nat.reduceLeDiff, Nat.zero_le, Nat.zero_add, Nat.add_zero]
  simp only [k_64_4, k_64_10, k_64_10N, k_64_14, k_64_14N, k_64_21, k_64_21i, k_64_22, k_64_22N, k_64_11, k_64_15, k_64_18, okG_iff s1, fld_of s1, if_true, am_cat, am_kill, Value.category, List.map_cons, List.map_nil, List.sum_cons, List.sum_nil, Option.toList_some, Option.toList_none, List.cons_append, List.nil_append, List.length_cons, List.length_nil, List.getD_cons_succ, List.getD_cons_zero, List.set_cons_succ, List.set_cons_zero, Nat.reduceAdd, Nat.reduceLT, Nat.reduceLeDiff, Nat.zero_le, Nat.zero_add, Nat.add_zero]
  have F1 : Fr (fun _ => False) h (h ++ [((.inr 1, [.null, .int 0]) : AC)]) := ⟨by rw [List.length_append]; omega, fun b hb _ => List.getElem?_append_left hb⟩
  have t1 := get_top (h := h) (x := ((.inr 1, [.null, .int 0]) : AC))
  have z1 := am_sz_app h ((.inr 1, [.null, .int 0]) : AC)
  have l1 : (h ++ [((.inr 1, [.null, .int 0]) : AC)]).length = h.length + 1 := by rw [List.length_append]; rfl
  generalize h ++ [((.inr 1, [.null, .int 0]) : AC)] = h1 at F1 t1 z1 l1
  have H1 := H.fr F1 (fun z => z) (fun z => z)
  simp only [k_64_23, okV_iff H1.1, sp_len H1, am_cat, am_kill, Value.category, List.map_cons, List.map_nil, List.sum_cons, List.sum_nil, Option.toList_some, Option.toList_none, List.cons_append, List.nil_append, List.length_cons, List.length_nil, List.getD_cons_succ, List.getD_cons_zero, List.set_cons_succ, List.set_cons_zero, Nat.reduceAdd, Nat.reduceLT, Nat.reduceLeDiff, Nat.zero_le, Nat.zero_add, Nat.add_zero]
  simp only [k_64_26, sp_cinit t1 (show sN ≤ h.length by omega) (show y.length < 2 ^ 20 by omega), am_cat, am_kill, Value.category, List.map_cons, List.map_nil, List.sum_cons, List.sum_nil, Option.toList_some, Option.toList_none, List.cons_append, List.nil_append, List.length_cons, List.length_nil, List.getD_cons_succ, List.getD_cons_zero, List.set_cons_succ, List.set_cons_zero, Nat.reduceAdd, Nat.reduceLT, Nat.reduceLeDiff, Nat.zero_le, Nat.zero_add, Nat.add_zero]
  have t2 := get_app (x := ((.inl .char, List.replicate y.length (.int 0)) : AC)) t1
  have t3 := get_set_eq (x := ((.inr 1, [.ref h1.length, .int 0]) : AC)) t2
  have t4 := get_top (h := h1) (x := ((.inl .char, List.replicate y.length (.int 0)) : AC))
  have F2 : Fr (fun b => b = h.length) h1 ((h1 ++ [((.inl .char, List.replicate y.length (.int 0)) : AC)]).set h.length (.inr 1, [.ref h1.length, .int 0])) := Fr.tr (h1 := h1 ++ [((.inl .char, List.replicate y.length (.int 0)) : AC)]) ⟨by rw [List.length_append]; omega, fun b hb _ => List.getElem?_append_left hb⟩ Fr.set (fun b _ z => z)
  have t5 : ((h1 ++ [((.inl .char, List.replicate y.length (.int 0)) : AC)]).set h.length (.inr 1, [.ref h1.length, .int 0]))[h1.length]? = some (.inl .char, List.replicate y.length (.int 0)) := by rw [get_set_ne (by omega)]; exact t4
  have z2 : am_sz ((h1 ++ [((.inl .char, List.replicate y.length (.int 0)) : AC)]).set h.length (.inr 1, [.ref h1.length, .int 0])) = am_sz h1 + y.length := by
    rw [sz_set (vs' := [.ref h1.length, .int 0]) t2 rfl, am_sz_app, List.length_replicate]
  have l2 : ((h1 ++ [((.inl .char, List.replicate y.length (.int 0)) : AC)]).set h.length (.inr 1, [.ref h1.length, .int 0])).length = h1.length + 1 := by rw [List.length_set, List.length_append]; rfl
  generalize (h1 ++ [((.inl .char, List.replicate y.length (.int 0)) : AC)]).set h.length (.inr 1, [.ref h1.length, .int 0]) = h2 at t3 F2 t5 z2 l2
  have P : Chs h2 h.length h1.length [] (List.replicate y.length (.int 0)) := ⟨t3, t5, Nat.zero_le _, fun j c hj => by simp at hj, by omega, by omega, by rw [List.length_replicate]; omega, fun c hc => absurd hc List.not_mem_nil⟩
  have F02 : Fr (fun _ => False) h h2 := Fr.tr F1 F2 (fun b hb z => by omega)
  have s1' := F02.get s1 (fun z => z)
  have s2' := F02.get s2 (fun z => z)
  have hTn : (nI T.length).toNatClampNeg = T.length := nI_clamp (by omega)
  have o1 : okA (fun ty => decide (ty = .object (cN 1))) h2 130 (nI T.length) := ⟨_, _, s2', by decide, nI_pos (by omega), by rw [hTn]; omega⟩
  rw [k_64_29 t3 o1 hs, hast_of s2', hTn]
  have s3' := get_set_eq (x := ((.inl (.object "TestEmitter$Chars"), bs.set T.length (.ref h.length)) : AC)) s2'
  have F3 : Fr (fun b => b = 130) h2 (h2.set 130 (.inl (.object "TestEmitter$Chars"), bs.set T.length (.ref h.length))) := Fr.set
  have z3 := sz_set (vs' := bs.set T.length (.ref h.length)) s2' (List.length_set ..)
  have l3 : (h2.set 130 (.inl (.object "TestEmitter$Chars"), bs.set T.length (.ref h.length))).length = h2.length := List.length_set ..
  generalize h2.set 130 (.inl (.object "TestEmitter$Chars"), bs.set T.length (.ref h.length)) = h3 at s3' F3 z3 l3
  have s1'' := F3.get s1' (by omega)
  have P3 := P.fr F3 (by omega) (by omega)
  have H3 := (H.fr F02 (fun z => z) (fun z => z)).fr F3 (by omega) (fun z => by
    have z : a3 = 130 := z
    have := H.2.1
    rw [z, s2] at this
    cases this)
  have o2 : okA am_isO h3 130 (nI T.length) := ⟨_, _, s3', rfl, nI_pos (by omega), by rw [hTn, List.length_set]; omega⟩
  have o3 : arr h3 130 (nI T.length) = .ref h.length := by rw [arr_of s3', hTn, List.getD_eq_getElem?_getD, List.getElem?_set, if_pos rfl, if_pos (by omega)]; rfl
  simp only [k_64_30, k_64_30N, k_64_34, k_64_34N, k_64_31, k_64_35, okG_iff s1'', fld_of s1'', am_cat, am_kill, Value.category, List.map_cons, List.map_nil, List.sum_cons, List.sum_nil, Option.toList_some, Option.toList_none, List.cons_append, List.nil_append, List.length_cons, List.length_nil, List.getD_cons_succ, List.getD_cons_zero, List.set_cons_succ, List.set_cons_zero, Nat.reduceAdd, Nat.reduceLT, Nat.reduceLeDiff, Nat.zero_le, Nat.zero_add, Nat.add_zero]
  rw [k_64_38 o2, o3]
  simp only [k_64_39, k_64_39N, k_64_40, okV_iff P3.1, am_cat, am_kill, Value.category, List.map_cons, List.map_nil, List.sum_cons, List.sum_nil, Option.toList_some, Option.toList_none, List.cons_append, List.nil_append, List.length_cons, List.length_nil, List.getD_cons_succ, List.getD_cons_zero, List.set_cons_succ, List.set_cons_zero, Nat.reduceAdd, Nat.reduceLT, Nat.reduceLeDiff, Nat.zero_le, Nat.zero_add, Nat.add_zero]
  refine sp_putc P3 H3 (by omega) (by omega) (by rw [List.length_nil]; omega) (fun h4 ar4 cs4 P4 E4 => ?_)
  rw [List.nil_append] at P4
  obtain ⟨⟨g1, g2⟩, e1, e2, e3, e4, e5⟩ := E4
  rw [List.length_nil, List.length_replicate] at e5
  rw [List.length_replicate] at e2 e3 e4
  have F4 : Fr (fun b => b = h.length ∨ b = h1.length) h3 h4 := ⟨g1, fun b hb ne => g2 b hb (fun z => ne (Or.inl z)) (fun z => ne (Or.inr z))⟩
  have w1 := F4.get s1'' (by omega)
  have w2 := F4.get s3' (by omega)
  have r1 := get_set_eq (x := ((.inr 6, [.ref 130, .int (nI (T.length + 1)), .int (nI (cntB T))]) : AC)) w1
  simp only [k_64_43, k_64_43N, k_64_44, k_64_44i, k_64_48, k_64_49, k_64_45, k_64_50, okG_iff w1, fld_of w1, hput_of w1, hs2, nI_1, am_cat, am_kill, Value.category, List.map_cons, List.map_nil, List.sum_cons, List.sum_nil, Option.toList_some, Option.toList_none, List.cons_append, List.nil_append, List.length_cons, List.length_nil, List.getD_cons_succ, List.getD_cons_zero, List.set_cons_succ, List.set_cons_zero, Nat.reduceAdd, Nat.reduceLT, Nat.reduceLeDiff, Nat.zero_le, Nat.zero_add, Nat.add_zero]
  have eth : (if th = true then (1 : Int32) else 0) = nI (if th = true then 1 else 0) := by cases th <;> rfl
  have go : wp (d + 4) 64 67 [some (.ref 129), some (.ref 127), some (.int (if th = true then 1 else 0))] [.int (nI (if th = true then 1 else 0)), .int (nI (cntB T)), .ref 129] (h4.set 129 (.inr 6, [.ref 130, .int (nI (T.length + 1)), .int (nI (cntB T))])) Q := by
    have r2 := get_set_eq (x := ((.inr 6, [.ref 130, .int (nI (T.length + 1)), .int (nI (cntB T + (if th = true then 1 else 0)))]) : AC)) r1
    simp only [k_64_67, k_64_68, okG_iff r1, hput_of r1, hs2, nI_add, am_cat, am_kill, Value.category, List.map_cons, List.map_nil, List.sum_cons, List.sum_nil, Option.toList_some, Option.toList_none, List.cons_append, List.nil_append, List.length_cons, List.length_nil, List.getD_cons_succ, List.getD_cons_zero, List.set_cons_succ, List.set_cons_zero, Nat.reduceAdd, Nat.reduceLT, Nat.reduceLeDiff, Nat.zero_le, Nat.zero_add, Nat.add_zero]
    simp only [k_64_71, k_64_71N, k_64_75, k_64_76, k_64_77, k_64_72, okG_iff r2, fld_of r2, am_cat, am_kill, Value.category, List.map_cons, List.map_nil, List.sum_cons, List.sum_nil, Option.toList_some, Option.toList_none, List.cons_append, List.nil_append, List.length_cons, List.length_nil, List.getD_cons_succ, List.getD_cons_zero, List.set_cons_succ, List.set_cons_zero, Nat.reduceAdd, Nat.reduceLT, Nat.reduceLeDiff, Nat.zero_le, Nat.zero_add, Nat.add_zero]
    rw [nI_pred]
    have F5 : Fr (fun b => b = 129) h4 ((h4.set 129 (.inr 6, [.ref 130, .int (nI (T.length + 1)), .int (nI (cntB T))])).set 129 (.inr 6, [.ref 130, .int (nI (T.length + 1)), .int (nI (cntB T + (if th = true then 1 else 0)))])) := Fr.tr Fr.set Fr.set (fun b _ z => z)
    have z5 : am_sz ((h4.set 129 (.inr 6, [.ref 130, .int (nI (T.length + 1)), .int (nI (cntB T))])).set 129 (.inr 6, [.ref 130, .int (nI (T.length + 1)), .int (nI (cntB T + (if th = true then 1 else 0)))])) = am_sz h4 := by
      rw [sz_set (vs' := [.ref 130, .int (nI (T.length + 1)), .int (nI (cntB T + (if th = true then 1 else 0)))]) r1 rfl, sz_set (vs' := [.ref 130, .int (nI (T.length + 1)), .int (nI (cntB T))]) w1 rfl]
    have l5 : ((h4.set 129 (.inr 6, [.ref 130, .int (nI (T.length + 1)), .int (nI (cntB T))])).set 129 (.inr 6, [.ref 130, .int (nI (T.length + 1)), .int (nI (cntB T + (if th = true then 1 else 0)))])).length = h4.length := by rw [List.length_set, List.length_set]
    generalize (h4.set 129 (.inr 6, [.ref 130, .int (nI (T.length + 1)), .int (nI (cntB T))])).set 129 (.inr 6, [.ref 130, .int (nI (T.length + 1)), .int (nI (cntB T + (if th = true then 1 else 0)))]) = h5 at r2 F5 z5 l5
    have F : Fr (fun b => b = 129 ∨ b = 130) h h5 := Fr.tr (Fr.tr (Fr.tr (F02.mono (fun b _ z => z.elim)) F3 (fun b _ z => Or.inr z)) F4 (fun b hb z => by omega)) F5 (fun b _ z => Or.inl z)
    refine K h5 ⟨bs.set T.length (.ref h.length), by rw [List.length_append, cntB_app]; exact r2, F5.get w2 (by omega), by rw [List.length_set]; exact s3, fun j b hb => ?_⟩ F (by rw [z1] at *; omega) (by rw [z5]; simp only [List.length_cons, List.length_nil] at z1; omega)
    rw [List.getElem?_append] at hb
    rw [List.getElem?_set]
    by_cases c : j < T.length
    · rw [if_pos c] at hb
      rw [if_neg (by omega)]
      obtain ⟨p, q, cs, p1, p2, p3, p4, p5, p6⟩ := s4 j b hb
      exact ⟨p, q, cs, p1, p2.fr F (by omega) (by omega), p3, p4, p5, p6⟩
    · rw [if_neg c] at hb
      have hz : j - T.length < 1 := (List.getElem?_eq_some_iff.mp hb).1
      obtain rfl : j = T.length := by omega
      rw [Nat.sub_self] at hb
      cases hb
      rw [if_pos rfl, if_pos (by omega)]
      exact ⟨h.length, ar4, cs4, rfl, P4.fr F5 (by omega) (by omega), h147, by omega, fun z => by have := hG _ z; omega, fun z => by have := hG _ z; omega⟩
  cases th with
  | true =>
    simp only [k_64_53, k_64_53N, k_64_54, k_64_54i, k_64_58, k_64_59, k_64_62, k_64_63, k_64_55, okG_iff r1, fld_of r1, show ¬ (1 : Int32) = 0 by decide, if_true, if_false, am_cat, am_kill, Value.category, List.map_cons, List.map_nil, List.sum_cons, List.sum_nil, Option.toList_some, Option.toList_none, List.cons_append, List.nil_append, List.length_cons, List.length_nil, List.getD_cons_succ, List.getD_cons_zero, List.set_cons_succ, List.set_cons_zero, Nat.reduceAdd, Nat.reduceLT, Nat.reduceLeDiff, Nat.zero_le, Nat.zero_add, Nat.add_zero]
    exact go
  | false =>
    simp only [k_64_53, k_64_53N, k_64_54, k_64_54i, k_64_58, k_64_59, k_64_66, k_64_55, okG_iff r1, fld_of r1, if_true, if_false, Bool.false_eq_true, am_cat, am_kill, Value.category, List.map_cons, List.map_nil, List.sum_cons, List.sum_nil, Option.toList_some, Option.toList_none, List.cons_append, List.nil_append, List.length_cons, List.length_nil, List.getD_cons_succ, List.getD_cons_zero, List.set_cons_succ, List.set_cons_zero, Nat.reduceAdd, Nat.reduceLT, Nat.reduceLeDiff, Nat.zero_le, Nat.zero_add, Nat.add_zero]
    exact go
theorem co_keep {T : List Tst1} {G : Nat → Prop} {a3 : Nat} {y y' : List Int32} {c3 : List Value} {th : Bool} (X : X105 h ra rt tk) (S : Sui h T G) (hT : T.length < 20) (H : Chs h 127 a3 y' c3) (hy : y' = y ∨ (300 < y'.length ∧ 300 < y.length)) (hG : ∀ b, G b → b < h.length) (h147 : 147 ≤ h.length) (K1 : 300 < y.length → Q (some (.int (-5))) h) (K2 : ¬ 300 < y.length → T.any (fun b => decide (b.1 = y)) = true → Q (some (.int (-4))) h) (K3 : ¬ 300 < y.length → ¬ T.any (fun b => decide (b.1 = y)) = true → ∀ h', Sui h' (T ++ [(y, th)]) G → Fr (fun b => b = 129 ∨ b = 130) h h' → h'.length ≤ h.length + 302 → am_sz h' ≤ am_sz h + 902 → Q (some (.int (nI T.length))) h') : wp (d + 5) 61 0 [some (.ref 105), some (.int (if th = true then 1 else 0))] [] h Q := by
  have X1 : h[105]? = some (.inr 0, [.ref 106, .ref ra, .ref rt, .ref 111, .ref 123, .ref 125, .ref 127, .ref 129, .ref 131, .int tk]) := X
  obtain ⟨bs, s1, s2, s3, s4⟩ := id S
  have hl : y'.length < 2 ^ 28 := by have := H.2.2.1; have := H.2.2.2.2.2.2.1; omega
  have e1 : ((300 : Int32) < nI y'.length) ↔ 300 < y'.length := nI_ltI (a := 300) (by omega) (by omega)
  simp only [k_61_0, k_61_0N, k_61_1, k_61_4, okG_iff X1, fld_of X1, okV_iff H.1, sp_len H, am_cat, am_kill, Value.category, List.map_cons, List.map_nil, List.sum_cons, List.sum_nil, Option.toList_some, Option.toList_none, List.cons_append, List.nil_append, List.length_cons, List.length_nil, List.getD_cons_succ, List.getD_cons_zero, List.set_cons_succ, List.set_cons_zero, Nat.reduceAdd, Nat.reduceLT, Nat.reduceLeDiff, Nat.zero_le, Nat.zero_add, Nat.add_zero]
  simp only [k_61_7, k_61_10, e1, am_cat, am_kill, Value.category, List.map_cons, List.map_nil, List.sum_cons, List.sum_nil, Option.toList_some, Option.toList_none, List.cons_append, List.nil_append, List.length_cons, List.length_nil, List.getD_cons_succ, List.getD_cons_zero, List.set_cons_succ, List.set_cons_zero, Nat.reduceAdd, Nat.reduceLT, Nat.reduceLeDiff, Nat.zero_le, Nat.zero_add, Nat.add_zero]
  by_cases c1 : 300 < y'.length
  · rw [if_pos c1]
    simp only [k_61_13, k_61_15, am_cat, am_kill, Value.category, List.map_cons, List.map_nil, List.sum_cons, List.sum_nil, Option.toList_some, Option.toList_none, List.cons_append, List.nil_append, List.length_cons, List.length_nil, List.getD_cons_succ, List.getD_cons_zero, List.set_cons_succ, List.set_cons_zero, Nat.reduceAdd, Nat.reduceLT, Nat.reduceLeDiff, Nat.zero_le, Nat.zero_add, Nat.add_zero]
    exact K1 (by rcases hy with rfl | z; exact c1; exact z.2)
  · obtain rfl : y' = y := hy.elim id (fun z => absurd z.1 c1)
    rw [if_neg c1]
    simp only [k_61_16, k_61_16N, k_61_20, k_61_20N, k_61_17, k_61_21, k_61_24, okG_iff X1, fld_of X1, okV_iff s1, su_holds S (show T.length ≤ 20 by omega) H, am_cat, am_kill, Value.category, List.map_cons, List.map_nil, List.sum_cons, List.sum_nil, Option.toList_some, Option.toList_none, List.cons_append, List.nil_append, List.length_cons, List.length_nil, List.getD_cons_succ, List.getD_cons_zero, List.set_cons_succ, List.set_cons_zero, Nat.reduceAdd, Nat.reduceLT, Nat.reduceLeDiff, Nat.zero_le, Nat.zero_add, Nat.add_zero]
    by_cases c2 : T.any (fun b => decide (b.1 = y')) = true
    · rw [if_pos c2]
      simp only [k_61_27, k_61_30, k_61_32, show ¬ (1 : Int32) = 0 by decide, if_false, am_cat, am_kill, Value.category, List.map_cons, List.map_nil, List.sum_cons, List.sum_nil, Option.toList_some, Option.toList_none, List.cons_append, List.nil_append, List.length_cons, List.length_nil, List.getD_cons_succ, List.getD_cons_zero, List.set_cons_succ, List.set_cons_zero, Nat.reduceAdd, Nat.reduceLT, Nat.reduceLeDiff, Nat.zero_le, Nat.zero_add, Nat.add_zero]
      exact K2 c1 c2
    · rw [if_neg c2]
      simp only [k_61_27, k_61_33, k_61_33N, k_61_37, k_61_37N, k_61_41, k_61_34, k_61_38, k_61_42, if_true, okG_iff X1, fld_of X1, okV_iff s1, am_cat, am_kill, Value.category, List.map_cons, List.map_nil, List.sum_cons, List.sum_nil, Option.toList_some, Option.toList_none, List.cons_append, List.nil_append, List.length_cons, List.length_nil, List.getD_cons_succ, List.getD_cons_zero, List.set_cons_succ, List.set_cons_zero, Nat.reduceAdd, Nat.reduceLT, Nat.reduceLeDiff, Nat.zero_le, Nat.zero_add, Nat.add_zero]
      refine su_add S hT H (by omega) hG h147 (fun h' S' F l1 l2 => ?_)
      simp only [k_61_45, am_cat, am_kill, Value.category, List.map_cons, List.map_nil, List.sum_cons, List.sum_nil, Option.toList_some, Option.toList_none, List.cons_append, List.nil_append, List.length_cons, List.length_nil, List.getD_cons_succ, List.getD_cons_zero, List.set_cons_succ, List.set_cons_zero, Nat.reduceAdd, Nat.reduceLT, Nat.reduceLeDiff, Nat.zero_le, Nat.zero_add, Nat.add_zero]
      exact K3 c1 c2 h' S' F l1 l2
end KB
