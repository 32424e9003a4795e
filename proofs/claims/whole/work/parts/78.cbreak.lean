/-! WHERE THE PROGRAM BREAKS A LINE -/
def okr (m : Nat) (i : Nat) : Bool := decide (i < m)
def nz (b : Option Nat) : Option Nat := if b = some 0 then none else b
def bI (s : Nat) : Option Nat → Int32
  | none => -1
  | some i => nI (s + i)
theorem lc_step {ok : Nat → Bool} {c : Int32} {r : List Int32} {i : Nat} {q : Int32} {b : Option Nat} : lc ok (c :: r) i q false b = if q = 0 then (if c = 34 ∨ c = 39 then lc ok r (i + 1) c false b else lc ok r (i + 1) 0 false (if c = 44 ∧ r.head? = some 32 ∧ ok i = true then some i else b)) else if c = 92 then lc ok r (i + 1) q true b else lc ok r (i + 1) (if c = q then 0 else q) false b := rfl
theorem lc_skip {ok : Nat → Bool} {c : Int32} {r : List Int32} {i : Nat} {q : Int32} {b : Option Nat} : lc ok (c :: r) i q true b = lc ok r (i + 1) q false b := rfl
theorem lc_dead {ok : Nat → Bool} : ∀ (l : List Int32) (i : Nat) (q : Int32) (e : Bool) (b : Option Nat), (∀ j, i ≤ j → ok j = false) → lc ok l i q e b = b := by
  intro l
  induction l with
  | nil => intro i q e b _; rfl
  | cons c r ih =>
    intro i q e b h
    have h' : ∀ j, i + 1 ≤ j → ok j = false := fun j hj => h j (by omega)
    cases e with
    | true => rw [lc_skip]; exact ih _ _ _ _ h'
    | false =>
      rw [lc_step]
      split
      · split
        · exact ih _ _ _ _ h'
        · rw [if_neg (fun z => by rw [h i (Nat.le_refl _)] at z; exact absurd z.2.2 (by decide))]
          exact ih _ _ _ _ h'
      · split
        · exact ih _ _ _ _ h'
        · exact ih _ _ _ _ h'
theorem lc_single {ok : Nat → Bool} {l : List Int32} {i : Nat} {q : Int32} {b : Option Nat} (h : l.length ≤ 1) : lc ok l i q false b = b := by
  match l, h with
  | [], _ => rfl
  | [c], _ =>
    rw [lc_step]
    split
    · split
      · rfl
      · rw [if_neg (fun z => by simp at z)]
        rfl
    · split
      · rfl
      · rfl
theorem lc_zero {W bl : Nat} : ∀ (l : List Int32) (i : Nat) (q : Int32) (e : Bool) (b : Option Nat), (i = 0 → nz b = none) → lc (okc W bl) l i q e (nz b) = nz (lc (okr (W - bl)) l i q e b) := by
  intro l
  induction l with
  | nil => intro i q e b _; rfl
  | cons c r ih =>
    intro i q e b h
    have up : ∀ (q' : Int32) (e' : Bool) (b' : Option Nat), lc (okc W bl) r (i + 1) q' e' (nz b') = nz (lc (okr (W - bl)) r (i + 1) q' e' b') := fun q' e' b' => ih (i + 1) q' e' b' (fun z => absurd z (Nat.succ_ne_zero i))
    cases e with
    | true => rw [lc_skip, lc_skip]; exact up _ _ _
    | false =>
      rw [lc_step, lc_step]
      split
      · split
        · exact up _ _ _
        · rw [← up]
          congr 1
          by_cases c1 : c = 44 ∧ r.head? = some 32 ∧ okr (W - bl) i = true
          · rw [if_pos c1]
            have c3 : i < W - bl := of_decide_eq_true c1.2.2
            by_cases c2 : i = 0
            · rw [if_neg (fun z => by
                have z3 := z.2.2
                unfold okc at z3
                rw [Bool.and_eq_true] at z3
                have := of_decide_eq_true z3.2
                omega), h c2, c2]
              rfl
            · rw [if_pos ⟨c1.1, c1.2.1, by
                unfold okc
                rw [decide_eq_true (show i + bl < W by omega), decide_eq_true (show 0 < i by omega)]
                rfl⟩]
              unfold nz
              rw [if_neg (fun z => c2 (Option.some.inj z))]
          · rw [if_neg c1, if_neg (fun z => c1 ⟨z.1, z.2.1, by
              have z3 := z.2.2
              unfold okc at z3
              rw [Bool.and_eq_true] at z3
              have := of_decide_eq_true z3.1
              exact decide_eq_true (show i < W - bl by omega)⟩)]
      · split
        · exact up _ _ _
        · exact up _ _ _
theorem seg_cons {y l : List Int32} {e k : Nat} {c : Int32} (h : (y.drop k).take (e - k) = c :: l) : k < e ∧ y[k]? = some c ∧ (y.drop (k + 1)).take (e - (k + 1)) = l := by
  have h1 : k < e := by
    by_cases z : k < e
    · exact z
    · rw [show e - k = 0 by omega, List.take_zero] at h
      cases h
  rw [show e - k = (e - (k + 1)) + 1 by omega] at h
  have h2 : k < y.length := by
    by_cases z : k < y.length
    · exact z
    · rw [List.drop_eq_nil_of_le (by omega)] at h
      cases h
  rw [List.drop_eq_getElem_cons h2, List.take_succ_cons] at h
  injection h with h3 h4
  exact ⟨h1, by rw [List.getElem?_eq_getElem h2, h3], h4⟩
section LCM
variable {h : AH} {p q d s e m : Nat} {y : List Int32} {cy : List Value} {Q : Option Value → AH → Prop}
theorem sp_get2 {k : Nat} {c : Int32} (H : Chs h p q y cy) (hk : y[k]? = some c) (hl : k < 2 ^ 31) : wp d 16 0 [some (.ref p), some (.int (nI k))] [] h Q ↔ Q (some (.int c)) h := by
  rw [sp_get H, if_neg (nI_pos hl), nI_clamp hl, List.getD_eq_getElem?_getD, hk]
  rfl
theorem lcm_loop (H : Chs h p q y cy) (he : e ≤ y.length) (hs : s < e) (hy : y.length < 2 ^ 20) (hm : m < 2 ^ 20) : ∀ (n k : Nat) (l : List Int32) (z : Int32) (b : Option Nat) (o7 : Option Value), l.length ≤ n → s ≤ k → k ≤ e → (y.drop k).take (e - k) = l → (wp (d + 1) 80 9 [some (.ref p), some (.int (nI s)), some (.int (nI e)), some (.int (nI m)), some (.int (bI s b)), some (.int z), some (.int (nI k)), o7] [] h Q ↔ Q (some (.int (bI s (lc (okr m) l (k - s) z false b)))) h) := by
  have ee : nI e - 1 = nI (e - 1) := nI_sub2 (b := 1) (by omega)
  have es : nI s + nI m = nI (s + m) := nI_add s m
  intro n
  induction n with
  | zero =>
    intro k l z b o7 hl hk hke hseg
    obtain rfl : l = [] := List.eq_nil_of_length_eq_zero (by omega)
    have hlen := congrArg List.length hseg
    rw [List.length_take, List.length_drop, List.length_nil] at hlen
    have e1 : ¬ nI k < nI (e - 1) := nI_nlt (by omega) (by omega)
    simp only [k_80_9, k_80_11, k_80_12, k_80_13, k_80_14, k_80_115, k_80_117, ee, e1, if_false, am_cat, am_kill, Value.category, List.map_cons, List.map_nil, List.sum_cons, List.sum_nil, Option.toList_some, Option.toList_none, List.cons_append, List.nil_append, List.length_cons, List.length_nil, List.getD_cons_succ, List.getD_cons_zero, List.set_cons_succ, List.set_cons_zero, Nat.reduceAdd, Nat.reduceLT, Nat.reduceLeDiff, Nat.zero_le, Nat.zero_add, Nat.add_zero]
    rfl
  | succ n ih =>
    intro k l z b o7 hl hk hke hseg
    have hlen := congrArg List.length hseg
    rw [List.length_take, List.length_drop] at hlen
    by_cases c1 : k < e - 1
    · have e1 : nI k < nI (e - 1) := nI_lt c1 (by omega)
      by_cases c2 : k < s + m
      · have e2 : nI k < nI (s + m) := nI_lt c2 (by omega)
        obtain ⟨c, l1, rfl⟩ : ∃ c l1, l = c :: l1 := by
          cases l with
          | nil => rw [List.length_nil] at hlen; omega
          | cons c l1 => exact ⟨c, l1, rfl⟩
        obtain ⟨x1, x2, x3⟩ := seg_cons hseg
        rw [List.length_cons] at hl hlen
        obtain ⟨w, l2, rfl⟩ : ∃ w l2, l1 = w :: l2 := by
          cases l1 with
          | nil => rw [List.length_nil] at hlen; omega
          | cons w l2 => exact ⟨w, l2, rfl⟩
        obtain ⟨x4, x5, x6⟩ := seg_cons x3
        rw [List.length_cons] at hl hlen
        simp only [k_80_9, k_80_11, k_80_12, k_80_13, k_80_14, k_80_17, k_80_19, k_80_20, k_80_21, k_80_22, k_80_25, k_80_25N, k_80_26, k_80_28, ee, es, e1, e2, if_true, okV_iff H.1, sp_get2 H x2 (by omega), am_cat, am_kill, Value.category, List.map_cons, List.map_nil, List.sum_cons, List.sum_nil, Option.toList_some, Option.toList_none, List.cons_append, List.nil_append, List.length_cons, List.length_nil, List.getD_cons_succ, List.getD_cons_zero, List.set_cons_succ, List.set_cons_zero, Nat.reduceAdd, Nat.reduceLT, Nat.reduceLeDiff, Nat.zero_le, Nat.zero_add, Nat.add_zero]
        simp only [k_80_31, k_80_33, k_80_35, am_kill, am_cat, am_kill, Value.category, List.map_cons, List.map_nil, List.sum_cons, List.sum_nil, Option.toList_some, Option.toList_none, List.cons_append, List.nil_append, List.length_cons, List.length_nil, List.getD_cons_succ, List.getD_cons_zero, List.set_cons_succ, List.set_cons_zero, Nat.reduceAdd, Nat.reduceLT, Nat.reduceLeDiff, Nat.zero_le, Nat.zero_add, Nat.add_zero]
        rw [lc_step, show k - s + 1 = k + 1 - s by omega]
        have go : ∀ (z' : Int32) (b' : Option Nat) (o' : Option Value), (wp (d + 1) 80 109 [some (.ref p), some (.int (nI s)), some (.int (nI e)), some (.int (nI m)), some (.int (bI s b')), some (.int z'), some (.int (nI k)), o'] [] h Q ↔ Q (some (.int (bI s (lc (okr m) (w :: l2) (k + 1 - s) z' false b')))) h) := by
          intro z' b' o'
          simp only [k_80_109, k_80_112, am_kill, nI_1, am_cat, am_kill, Value.category, List.map_cons, List.map_nil, List.sum_cons, List.sum_nil, Option.toList_some, Option.toList_none, List.cons_append, List.nil_append, List.length_cons, List.length_nil, List.getD_cons_succ, List.getD_cons_zero, List.set_cons_succ, List.set_cons_zero, Nat.reduceAdd, Nat.reduceLT, Nat.reduceLeDiff, Nat.zero_le, Nat.zero_add, Nat.add_zero]
          exact ih (k + 1) (w :: l2) z' b' o' (by rw [List.length_cons]; omega) (by omega) (by omega) x3
        by_cases c3 : z = 0
        · rw [if_pos c3, if_pos c3]
          simp only [k_80_64, k_80_66, k_80_68, am_cat, am_kill, Value.category, List.map_cons, List.map_nil, List.sum_cons, List.sum_nil, Option.toList_some, Option.toList_none, List.cons_append, List.nil_append, List.length_cons, List.length_nil, List.getD_cons_succ, List.getD_cons_zero, List.set_cons_succ, List.set_cons_zero, Nat.reduceAdd, Nat.reduceLT, Nat.reduceLeDiff, Nat.zero_le, Nat.zero_add, Nat.add_zero]
          by_cases c4 : c = 39
          · rw [if_pos c4, if_pos (Or.inr c4)]
            simp only [k_80_78, k_80_80, k_80_82, am_kill, am_cat, am_kill, Value.category, List.map_cons, List.map_nil, List.sum_cons, List.sum_nil, Option.toList_some, Option.toList_none, List.cons_append, List.nil_append, List.length_cons, List.length_nil, List.getD_cons_succ, List.getD_cons_zero, List.set_cons_succ, List.set_cons_zero, Nat.reduceAdd, Nat.reduceLT, Nat.reduceLeDiff, Nat.zero_le, Nat.zero_add, Nat.add_zero]
            exact go _ _ _
          rw [if_neg c4]
          simp only [k_80_71, k_80_73, k_80_75, am_cat, am_kill, Value.category, List.map_cons, List.map_nil, List.sum_cons, List.sum_nil, Option.toList_some, Option.toList_none, List.cons_append, List.nil_append, List.length_cons, List.length_nil, List.getD_cons_succ, List.getD_cons_zero, List.set_cons_succ, List.set_cons_zero, Nat.reduceAdd, Nat.reduceLT, Nat.reduceLeDiff, Nat.zero_le, Nat.zero_add, Nat.add_zero]
          by_cases c5 : c = 34
          · rw [if_pos c5, if_pos (Or.inl c5)]
            simp only [k_80_78, k_80_80, k_80_82, am_kill, am_cat, am_kill, Value.category, List.map_cons, List.map_nil, List.sum_cons, List.sum_nil, Option.toList_some, Option.toList_none, List.cons_append, List.nil_append, List.length_cons, List.length_nil, List.getD_cons_succ, List.getD_cons_zero, List.set_cons_succ, List.set_cons_zero, Nat.reduceAdd, Nat.reduceLT, Nat.reduceLeDiff, Nat.zero_le, Nat.zero_add, Nat.add_zero]
            exact go _ _ _
          rw [if_neg c5, if_neg (fun y => y.elim c5 c4)]
          simp only [k_80_85, k_80_87, k_80_89, am_cat, am_kill, Value.category, List.map_cons, List.map_nil, List.sum_cons, List.sum_nil, Option.toList_some, Option.toList_none, List.cons_append, List.nil_append, List.length_cons, List.length_nil, List.getD_cons_succ, List.getD_cons_zero, List.set_cons_succ, List.set_cons_zero, Nat.reduceAdd, Nat.reduceLT, Nat.reduceLeDiff, Nat.zero_le, Nat.zero_add, Nat.add_zero]
          by_cases c6 : c = 44
          · rw [if_pos c6]
            simp only [k_80_92, k_80_92N, k_80_93, k_80_95, k_80_96, k_80_97, nI_1, okV_iff H.1, sp_get2 H x5 (by omega), am_cat, am_kill, Value.category, List.map_cons, List.map_nil, List.sum_cons, List.sum_nil, Option.toList_some, Option.toList_none, List.cons_append, List.nil_append, List.length_cons, List.length_nil, List.getD_cons_succ, List.getD_cons_zero, List.set_cons_succ, List.set_cons_zero, Nat.reduceAdd, Nat.reduceLT, Nat.reduceLeDiff, Nat.zero_le, Nat.zero_add, Nat.add_zero]
            simp only [k_80_100, k_80_102, am_cat, am_kill, Value.category, List.map_cons, List.map_nil, List.sum_cons, List.sum_nil, Option.toList_some, Option.toList_none, List.cons_append, List.nil_append, List.length_cons, List.length_nil, List.getD_cons_succ, List.getD_cons_zero, List.set_cons_succ, List.set_cons_zero, Nat.reduceAdd, Nat.reduceLT, Nat.reduceLeDiff, Nat.zero_le, Nat.zero_add, Nat.add_zero]
            by_cases c7 : w = 32
            · rw [if_pos c7, if_pos ⟨c6, by rw [c7]; rfl, decide_eq_true (show k - s < m by omega)⟩]
              have eb : nI k = bI s (some (k - s)) := by
                show nI k = nI (s + (k - s))
                congr 1
                omega
              simp only [k_80_105, k_80_107, am_kill, am_cat, am_kill, Value.category, List.map_cons, List.map_nil, List.sum_cons, List.sum_nil, Option.toList_some, Option.toList_none, List.cons_append, List.nil_append, List.length_cons, List.length_nil, List.getD_cons_succ, List.getD_cons_zero, List.set_cons_succ, List.set_cons_zero, Nat.reduceAdd, Nat.reduceLT, Nat.reduceLeDiff, Nat.zero_le, Nat.zero_add, Nat.add_zero]
              have g := go z (some (k - s)) (some (.int c))
              rw [← eb, c3] at g
              rw [c3]
              exact g
            · rw [if_neg c7, if_neg (fun y => c7 (Option.some.inj y.2.1))]
              have g := go z b (some (.int c))
              rw [c3] at g
              rw [c3]
              exact g
          · rw [if_neg c6, if_neg (fun y => c6 y.1)]
            have g := go z b (some (.int c))
            rw [c3] at g
            rw [c3]
            exact g
        · rw [if_neg c3, if_neg c3]
          simp only [k_80_38, k_80_40, k_80_42, am_cat, am_kill, Value.category, List.map_cons, List.map_nil, List.sum_cons, List.sum_nil, Option.toList_some, Option.toList_none, List.cons_append, List.nil_append, List.length_cons, List.length_nil, List.getD_cons_succ, List.getD_cons_zero, List.set_cons_succ, List.set_cons_zero, Nat.reduceAdd, Nat.reduceLT, Nat.reduceLeDiff, Nat.zero_le, Nat.zero_add, Nat.add_zero]
          by_cases c4 : c = 92
          · rw [if_pos c4, if_pos c4, lc_skip, show k + 1 - s + 1 = k + 2 - s by omega]
            simp only [k_80_45, k_80_48, k_80_109, k_80_112, am_kill, nI_1, am_cat, am_kill, Value.category, List.map_cons, List.map_nil, List.sum_cons, List.sum_nil, Option.toList_some, Option.toList_none, List.cons_append, List.nil_append, List.length_cons, List.length_nil, List.getD_cons_succ, List.getD_cons_zero, List.set_cons_succ, List.set_cons_zero, Nat.reduceAdd, Nat.reduceLT, Nat.reduceLeDiff, Nat.zero_le, Nat.zero_add, Nat.add_zero]
            exact ih (k + 2) l2 z b _ (by omega) (by omega) (by omega) x6
          rw [if_neg c4, if_neg c4]
          simp only [k_80_51, k_80_53, k_80_55, am_cat, am_kill, Value.category, List.map_cons, List.map_nil, List.sum_cons, List.sum_nil, Option.toList_some, Option.toList_none, List.cons_append, List.nil_append, List.length_cons, List.length_nil, List.getD_cons_succ, List.getD_cons_zero, List.set_cons_succ, List.set_cons_zero, Nat.reduceAdd, Nat.reduceLT, Nat.reduceLeDiff, Nat.zero_le, Nat.zero_add, Nat.add_zero]
          by_cases c5 : c = z
          · rw [if_pos c5, if_pos c5]
            simp only [k_80_58, k_80_59, k_80_61, am_kill, am_cat, am_kill, Value.category, List.map_cons, List.map_nil, List.sum_cons, List.sum_nil, Option.toList_some, Option.toList_none, List.cons_append, List.nil_append, List.length_cons, List.length_nil, List.getD_cons_succ, List.getD_cons_zero, List.set_cons_succ, List.set_cons_zero, Nat.reduceAdd, Nat.reduceLT, Nat.reduceLeDiff, Nat.zero_le, Nat.zero_add, Nat.add_zero]
            exact go _ _ _
          · rw [if_neg c5, if_neg c5]
            exact go _ _ _
      · have e2 : ¬ nI k < nI (s + m) := nI_nlt (by omega) (by omega)
        simp only [k_80_9, k_80_11, k_80_12, k_80_13, k_80_14, k_80_17, k_80_19, k_80_20, k_80_21, k_80_22, k_80_115, k_80_117, ee, es, e1, e2, if_true, if_false, am_cat, am_kill, Value.category, List.map_cons, List.map_nil, List.sum_cons, List.sum_nil, Option.toList_some, Option.toList_none, List.cons_append, List.nil_append, List.length_cons, List.length_nil, List.getD_cons_succ, List.getD_cons_zero, List.set_cons_succ, List.set_cons_zero, Nat.reduceAdd, Nat.reduceLT, Nat.reduceLeDiff, Nat.zero_le, Nat.zero_add, Nat.add_zero]
        rw [lc_dead (ok := okr m) l (k - s) z false b (fun j hj => decide_eq_false (show ¬ j < m by omega))]
    · have e1 : ¬ nI k < nI (e - 1) := nI_nlt (by omega) (by omega)
      simp only [k_80_9, k_80_11, k_80_12, k_80_13, k_80_14, k_80_115, k_80_117, ee, e1, if_false, am_cat, am_kill, Value.category, List.map_cons, List.map_nil, List.sum_cons, List.sum_nil, Option.toList_some, Option.toList_none, List.cons_append, List.nil_append, List.length_cons, List.length_nil, List.getD_cons_succ, List.getD_cons_zero, List.set_cons_succ, List.set_cons_zero, Nat.reduceAdd, Nat.reduceLT, Nat.reduceLeDiff, Nat.zero_le, Nat.zero_add, Nat.add_zero]
      rw [lc_single (by omega)]
theorem sp_lastComma (H : Chs h p q y cy) (he : e ≤ y.length) (hs : s < e) (hy : y.length < 2 ^ 20) (hm : m < 2 ^ 20) : wp (d + 1) 80 0 [some (.ref p), some (.int (nI s)), some (.int (nI e)), some (.int (nI m)), none, none, none, none] [] h Q ↔ Q (some (.int (bI s (lc (okr m) ((y.drop s).take (e - s)) 0 0 false none)))) h := by
  simp only [k_80_0, k_80_1, k_80_3, k_80_4, k_80_6, k_80_7, am_kill, am_cat, am_kill, Value.category, List.map_cons, List.map_nil, List.sum_cons, List.sum_nil, Option.toList_some, Option.toList_none, List.cons_append, List.nil_append, List.length_cons, List.length_nil, List.getD_cons_succ, List.getD_cons_zero, List.set_cons_succ, List.set_cons_zero, Nat.reduceAdd, Nat.reduceLT, Nat.reduceLeDiff, Nat.zero_le, Nat.zero_add, Nat.add_zero]
  have := lcm_loop (d := d) (Q := Q) H he hs hy hm _ s _ 0 none none (Nat.le_refl _) (Nat.le_refl _) (by omega) rfl
  rw [Nat.sub_self] at this
  exact this
end LCM
