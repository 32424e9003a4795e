/-! THE TEXT: lines, breaking -/
def rp (k : Nat) : List Int32 := List.replicate k 32
def tx (Ls : List (List Int32)) : List Int32 := Ls.flatMap (fun l => l ++ [10])
def mxl : List (List Int32) → Nat
  | [] => 0
  | l :: r => max l.length (mxl r)
theorem tx_app (Ls : List (List Int32)) (Y : List Int32) : tx (Ls ++ [Y]) = tx Ls ++ (Y ++ [10]) := by
  unfold tx
  rw [List.flatMap_append]
  simp
theorem mxl_app (Ls : List (List Int32)) (Y : List Int32) : mxl (Ls ++ [Y]) = max (mxl Ls) Y.length := by
  induction Ls with
  | nil => show max Y.length 0 = max 0 Y.length; omega
  | cons l r ih => show max l.length (mxl (r ++ [Y])) = max (max l.length (mxl r)) Y.length; rw [ih]; omega
def lc (ok : Nat → Bool) : List Int32 → Nat → Int32 → Bool → Option Nat → Option Nat
  | [], _, _, _, b => b
  | _ :: r, i, q, true, b => lc ok r (i + 1) q false b
  | c :: r, i, q, false, b => if q = 0 then (if c = 34 ∨ c = 39 then lc ok r (i + 1) c false b else lc ok r (i + 1) 0 false (if c = 44 ∧ r.head? = some 32 ∧ ok i = true then some i else b)) else if c = 92 then lc ok r (i + 1) q true b else lc ok r (i + 1) (if c = q then 0 else q) false b
theorem lc_spec {ok : Nat → Bool} : ∀ (l : List Int32) (i : Nat) (q : Int32) (e : Bool) (b : Option Nat) (m : Nat), lc ok l i q e b = some m → b = some m ∨ (i ≤ m ∧ m + 2 ≤ i + l.length ∧ ok m = true ∧ l[m - i]? = some 44 ∧ l[m - i + 1]? = some 32) := by
  intro l
  induction l with
  | nil => intro i q e b m h; exact Or.inl h
  | cons c r ih =>
    intro i q e b m h
    have up : ∀ (q' : Int32) (e' : Bool), lc ok r (i + 1) q' e' b = some m → b = some m ∨ (i ≤ m ∧ m + 2 ≤ i + (c :: r).length ∧ ok m = true ∧ (c :: r)[m - i]? = some 44 ∧ (c :: r)[m - i + 1]? = some 32) := by
      intro q' e' h'
      rcases ih (i + 1) q' e' b m h' with z | ⟨z1, z2, z3, z4, z5⟩
      · exact Or.inl z
      · refine Or.inr ⟨by omega, by rw [List.length_cons]; omega, z3, ?_, ?_⟩
        · rw [show m - i = m - (i + 1) + 1 by omega, List.getElem?_cons_succ]
          exact z4
        · rw [show m - i = m - (i + 1) + 1 by omega, List.getElem?_cons_succ]
          exact z5
    cases e with
    | true => exact up q false h
    | false =>
      have h : (if q = 0 then (if c = 34 ∨ c = 39 then lc ok r (i + 1) c false b else lc ok r (i + 1) 0 false (if c = 44 ∧ r.head? = some 32 ∧ ok i = true then some i else b)) else if c = 92 then lc ok r (i + 1) q true b else lc ok r (i + 1) (if c = q then 0 else q) false b) = some m := h
      split at h
      · split at h
        · exact up _ _ h
        · split at h
          · rename_i hc
            rcases ih (i + 1) 0 false (some i) m h with z | ⟨z1, z2, z3, z4, z5⟩
            · cases z
              have hr : 0 < r.length := by
                cases r with
                | nil => exact absurd hc.2.1 (by simp)
                | cons x y => simp
              refine Or.inr ⟨Nat.le_refl _, by rw [List.length_cons]; omega, hc.2.2, ?_, ?_⟩
              · rw [Nat.sub_self, List.getElem?_cons_zero, hc.1]
              · rw [Nat.sub_self, List.getElem?_cons_succ, ← List.head?_eq_getElem?]
                exact hc.2.1
            · refine Or.inr ⟨by omega, by rw [List.length_cons]; omega, z3, ?_, ?_⟩
              · rw [show m - i = m - (i + 1) + 1 by omega, List.getElem?_cons_succ]
                exact z4
              · rw [show m - i = m - (i + 1) + 1 by omega, List.getElem?_cons_succ]
                exact z5
          · exact up _ _ h
      · split at h
        · exact up _ _ h
        · exact up _ _ h
def okc (W bl : Nat) (i : Nat) : Bool := decide (i + bl < W) && decide (0 < i)
def brk (W ind : Nat) : Nat → Nat → List Int32 → List (List Int32)
  | 0, bl, r => [rp bl ++ r]
  | f + 1, bl, r => if W < bl + r.length then (match lc (okc W bl) r 0 0 false none with
    | none => [rp bl ++ r]
    | some i => (rp bl ++ r.take (i + 1)) :: brk W ind f (ind + 8) (r.drop (i + 2))) else [rp bl ++ r]
/-- blanks ahead of a text don't count -/
theorem lc_shift {ok ok2 : Nat → Bool} {k : Nat} (h : ∀ i, ok2 (i + k) = ok i) : ∀ (l : List Int32) (i : Nat) (q : Int32) (e : Bool) (b : Option Nat), lc ok2 l (i + k) q e (b.map (fun x => x + k)) = (lc ok l i q e b).map (fun x => x + k) := by
  intro l
  induction l with
  | nil => intro i q e b; rfl
  | cons c r ih =>
    intro i q e b
    have s1 : i + k + 1 = i + 1 + k := by omega
    cases e with
    | true =>
      show lc ok2 r (i + k + 1) q false _ = (lc ok r (i + 1) q false b).map _
      rw [s1, ih]
    | false =>
      show (if q = 0 then (if c = 34 ∨ c = 39 then lc ok2 r (i + k + 1) c false (b.map _) else lc ok2 r (i + k + 1) 0 false (if c = 44 ∧ r.head? = some 32 ∧ ok2 (i + k) = true then some (i + k) else b.map _)) else if c = 92 then lc ok2 r (i + k + 1) q true (b.map _) else lc ok2 r (i + k + 1) (if c = q then 0 else q) false (b.map _)) = (if q = 0 then (if c = 34 ∨ c = 39 then lc ok r (i + 1) c false b else lc ok r (i + 1) 0 false (if c = 44 ∧ r.head? = some 32 ∧ ok i = true then some i else b)) else if c = 92 then lc ok r (i + 1) q true b else lc ok r (i + 1) (if c = q then 0 else q) false b).map _
      rw [h, s1]
      split
      · split
        · exact ih _ _ _ _
        · split
          · exact ih (i + 1) 0 false (some i)
          · exact ih _ _ _ _
      · split
        · exact ih _ _ _ _
        · exact ih _ _ _ _
theorem lc_blanks {ok2 : Nat → Bool} (r : List Int32) (b : Option Nat) : ∀ (k i : Nat), lc ok2 (rp k ++ r) i 0 false b = lc ok2 r (i + k) 0 false b := by
  intro k
  induction k with
  | zero => intro i; rfl
  | succ k ih =>
    intro i
    have e : rp (k + 1) ++ r = 32 :: (rp k ++ r) := rfl
    rw [e]
    show (if (0 : Int32) = 0 then (if (32 : Int32) = 34 ∨ (32 : Int32) = 39 then _ else lc ok2 (rp k ++ r) (i + 1) 0 false (if (32 : Int32) = 44 ∧ _ ∧ _ then some i else b)) else _) = _
    rw [if_pos rfl, if_neg (by decide), if_neg (fun z => absurd z.1 (by decide)), ih, show i + 1 + k = i + (k + 1) by omega]
theorem lc_line (W lead : Nat) (r : List Int32) : lc (fun i => decide (i < W) && decide (lead < i)) (rp lead ++ r) 0 0 false none = (lc (okc W lead) r 0 0 false none).map (fun x => x + lead) := by
  rw [lc_blanks, ← lc_shift (ok := okc W lead) (ok2 := fun i => decide (i < W) && decide (lead < i)) (k := lead) (fun i => ?_) r 0 0 false none]
  · rfl
  · unfold okc
    simp
/-! THE REFERENCE WRITES THE TEXT -/
def ES (P S : AH) (n0 : Nat → Int32) (A0 : Nat → Nat → Int32) (X : List Int32) (ln lg ad : Nat) (h : AH) : Prop := ∃ n A, h = wr P S n A ∧ (∀ i, i ≠ 6 → i ≠ 7 → i ≠ 8 → i ≠ 9 → n i = n0 i) ∧ n 6 = nI X.length ∧ n 7 = nI ln ∧ n 8 = nI lg ∧ n 9 = nI ad ∧ (∀ i, i ≠ 5 → A i = A0 i) ∧ (∀ (j : Nat) (c : Int32), X[j]? = some c → Tx A j = c) ∧ ∀ c ∈ X, asc c
section MTX
variable {P S h : AH} {n0 : Nat → Int32} {A0 : Nat → Nat → Int32} {d ln lg ad : Nat} {X : List Int32} {Q : Option Value → AH → Prop}
theorem ES.ov (hP : P.length = 135) (M : ES P S n0 A0 X ln lg ad h) : okV h 135 8 ↔ True := by
  obtain ⟨n, A, rfl, -⟩ := M
  exact ovw hP
theorem es_out (hP : P.length = 135) {c : Int32} (hc : asc c) (hb : X.length < 16800) (M : ES P S n0 A0 X ln lg ad h) (K : ∀ h', ES P S n0 A0 (X ++ [c]) ln lg ad h' → Q none h') : wp (d + 1) 136 0 [some (.ref 135), some (.int c)] [] h Q := by
  obtain ⟨n, A, rfl, m1, m2, m3, m4, m5, m6, m7, m8⟩ := M
  have hs : sN ≤ 135 := by decide
  simp only [k_136_0, k_136_0N, k_136_1, k_136_1N, k_136_5, k_136_2, k_136_6, ogw hP, fw_6 hP, ovw hP, m2, sp_setText hP hb, am_cat, am_kill, Value.category, List.map_cons, List.map_nil, List.sum_cons, List.sum_nil, Option.toList_some, Option.toList_none, List.cons_append, List.nil_append, List.length_cons, List.length_nil, List.getD_cons_succ, List.getD_cons_zero, List.set_cons_succ, List.set_cons_zero, Nat.reduceAdd, Nat.reduceLT, Nat.reduceLeDiff, Nat.zero_le, Nat.zero_add, Nat.add_zero]
  simp only [k_136_9, k_136_9N, k_136_10, k_136_10i, k_136_14, k_136_15, k_136_19, k_136_11, k_136_16, ogw hP, fw_6 hP, hw_6 hP, hs, m2, nI_1, am_cat, am_kill, Value.category, List.map_cons, List.map_nil, List.sum_cons, List.sum_nil, Option.toList_some, Option.toList_none, List.cons_append, List.nil_append, List.length_cons, List.length_nil, List.getD_cons_succ, List.getD_cons_zero, List.set_cons_succ, List.set_cons_zero, Nat.reduceAdd, Nat.reduceLT, Nat.reduceLeDiff, Nat.zero_le, Nat.zero_add, Nat.add_zero]
  refine K _ ⟨_, _, rfl, fun i i1 i2 i3 i4 => by rw [pk_un i1]; exact m1 i i1 i2 i3 i4, by rw [pk_us, List.length_append]; rfl, by rw [pk_un (by decide)]; exact m3, by rw [pk_un (by decide)]; exact m4, by rw [pk_un (by decide)]; exact m5, fun i hi => by rw [uA_r hi]; exact m6 i hi, fun j x hj => ?_, fun x hx => ?_⟩
  · rw [Tx_set hc]
    rw [List.getElem?_append] at hj
    by_cases c2 : j < X.length
    · rw [if_pos c2] at hj
      rw [if_neg (by omega)]
      exact m7 j x hj
    · rw [if_neg c2] at hj
      have hz : j - X.length < 1 := (List.getElem?_eq_some_iff.mp hj).1
      obtain rfl : j = X.length := by omega
      rw [Nat.sub_self] at hj
      cases hj
      rw [if_pos rfl]
  · rcases List.mem_append.mp hx with hx | hx
    · exact m8 x hx
    · rw [List.mem_singleton.mp hx]; exact hc
theorem es_w1 (hP : P.length = 135) {x : Int64} {s : Int32} (hs : ¬ s < 0) (ha : ∀ c ∈ wd1 x s, asc c) (M : ES P S n0 A0 X ln lg ad h) (hb : X.length < 16800) (K : ∀ h', ES P S n0 A0 (X ++ wd1 x s) ln lg ad h' → wp (d + 2) 135 3 [some (.ref 135), some (.long x), none, some (.int (s + (-8)))] [] h' Q) : wp (d + 2) 135 3 [some (.ref 135), some (.long x), none, some (.int s)] [] h Q := by
  simp only [k_135_3, k_135_4, k_135_7, k_135_8, k_135_9, k_135_13, k_135_14, k_135_15, k_135_16, k_135_10, hs, if_false, lg_cmp_eq, am_cat, am_kill, Value.category, List.map_cons, List.map_nil, List.sum_cons, List.sum_nil, Option.toList_some, Option.toList_none, List.cons_append, List.nil_append, List.length_cons, List.length_nil, List.getD_cons_succ, List.getD_cons_zero, List.set_cons_succ, List.set_cons_zero, Nat.reduceAdd, Nat.reduceLT, Nat.reduceLeDiff, Nat.zero_le, Nat.zero_add, Nat.add_zero]
  unfold wd1 at K ha
  by_cases c : (x >>> (s.toInt64 &&& 63)) &&& 255 = 0
  · rw [if_pos c] at K ⊢
    simp only [k_135_31, k_135_34, am_cat, am_kill, Value.category, List.map_cons, List.map_nil, List.sum_cons, List.sum_nil, Option.toList_some, Option.toList_none, List.cons_append, List.nil_append, List.length_cons, List.length_nil, List.getD_cons_succ, List.getD_cons_zero, List.set_cons_succ, List.set_cons_zero, Nat.reduceAdd, Nat.reduceLT, Nat.reduceLeDiff, Nat.zero_le, Nat.zero_add, Nat.add_zero]
    exact K h (by rw [List.append_nil]; exact M)
  · rw [if_neg c] at K ha ⊢
    simp only [k_135_19, k_135_19N, k_135_20, k_135_21, k_135_22, k_135_26, k_135_27, k_135_23, k_135_28, M.ov hP, am_cat, am_kill, Value.category, List.map_cons, List.map_nil, List.sum_cons, List.sum_nil, Option.toList_some, Option.toList_none, List.cons_append, List.nil_append, List.length_cons, List.length_nil, List.getD_cons_succ, List.getD_cons_zero, List.set_cons_succ, List.set_cons_zero, Nat.reduceAdd, Nat.reduceLT, Nat.reduceLeDiff, Nat.zero_le, Nat.zero_add, Nat.add_zero]
    refine es_out hP (ha _ (List.mem_singleton_self _)) hb M (fun h1 M1 => ?_)
    simp only [k_135_31, k_135_34, am_cat, am_kill, Value.category, List.map_cons, List.map_nil, List.sum_cons, List.sum_nil, Option.toList_some, Option.toList_none, List.cons_append, List.nil_append, List.length_cons, List.length_nil, List.getD_cons_succ, List.getD_cons_zero, List.set_cons_succ, List.set_cons_zero, Nat.reduceAdd, Nat.reduceLT, Nat.reduceLeDiff, Nat.zero_le, Nat.zero_add, Nat.add_zero]
    exact K h1 M1
theorem es_word (hP : P.length = 135) {x : Int64} (v : List Int32) (hv : wd x = v) (ha : ∀ c ∈ v, asc c) (M : ES P S n0 A0 X ln lg ad h) (hb : X.length + 8 < 16800) (K : ∀ h', ES P S n0 A0 (X ++ v) ln lg ad h' → Q none h') : wp (d + 2) 135 0 [some (.ref 135), some (.long x), none, none] [] h Q := by
  subst hv
  have l1 := wd1_len x
  have b1 := l1 56
  have b2 := l1 48
  have b3 := l1 40
  have b4 := l1 32
  have b5 := l1 24
  have b6 := l1 16
  have b7 := l1 8
  unfold wd at ha K
  simp only [List.mem_append] at ha
  simp only [k_135_0, k_135_2, am_cat, am_kill, Value.category, List.map_cons, List.map_nil, List.sum_cons, List.sum_nil, Option.toList_some, Option.toList_none, List.cons_append, List.nil_append, List.length_cons, List.length_nil, List.getD_cons_succ, List.getD_cons_zero, List.set_cons_succ, List.set_cons_zero, Nat.reduceAdd, Nat.reduceLT, Nat.reduceLeDiff, Nat.zero_le, Nat.zero_add, Nat.add_zero]
  refine es_w1 hP (by decide) (fun c hc => ha c (Or.inl hc)) M (by omega) (fun h1 M1 => ?_)
  rw [show (56 : Int32) + (-8) = 48 by decide]
  refine es_w1 hP (by decide) (fun c hc => ha c (Or.inr (Or.inl hc))) M1 (by simp only [List.length_append]; omega) (fun h2 M2 => ?_)
  rw [show (48 : Int32) + (-8) = 40 by decide]
  refine es_w1 hP (by decide) (fun c hc => ha c (Or.inr (Or.inr (Or.inl hc)))) M2 (by simp only [List.length_append]; omega) (fun h3 M3 => ?_)
  rw [show (40 : Int32) + (-8) = 32 by decide]
  refine es_w1 hP (by decide) (fun c hc => ha c (Or.inr (Or.inr (Or.inr (Or.inl hc))))) M3 (by simp only [List.length_append]; omega) (fun h4 M4 => ?_)
  rw [show (32 : Int32) + (-8) = 24 by decide]
  refine es_w1 hP (by decide) (fun c hc => ha c (Or.inr (Or.inr (Or.inr (Or.inr (Or.inl hc)))))) M4 (by simp only [List.length_append]; omega) (fun h5 M5 => ?_)
  rw [show (24 : Int32) + (-8) = 16 by decide]
  refine es_w1 hP (by decide) (fun c hc => ha c (Or.inr (Or.inr (Or.inr (Or.inr (Or.inr (Or.inl hc))))))) M5 (by simp only [List.length_append]; omega) (fun h6 M6 => ?_)
  rw [show (16 : Int32) + (-8) = 8 by decide]
  refine es_w1 hP (by decide) (fun c hc => ha c (Or.inr (Or.inr (Or.inr (Or.inr (Or.inr (Or.inr (Or.inl hc)))))))) M6 (by simp only [List.length_append]; omega) (fun h7 M7 => ?_)
  rw [show (8 : Int32) + (-8) = 0 by decide]
  refine es_w1 hP (by decide) (fun c hc => ha c (Or.inr (Or.inr (Or.inr (Or.inr (Or.inr (Or.inr (Or.inr hc)))))))) M7 (by simp only [List.length_append]; omega) (fun h8 M8 => ?_)
  have e4 : (0 : Int32) + (-8) < 0 := by decide
  simp only [k_135_3, k_135_4, k_135_37, e4, if_true, am_cat, am_kill, Value.category, List.map_cons, List.map_nil, List.sum_cons, List.sum_nil, Option.toList_some, Option.toList_none, List.cons_append, List.nil_append, List.length_cons, List.length_nil, List.getD_cons_succ, List.getD_cons_zero, List.set_cons_succ, List.set_cons_zero, Nat.reduceAdd, Nat.reduceLT, Nat.reduceLeDiff, Nat.zero_le, Nat.zero_add, Nat.add_zero]
  refine K h8 ?_
  simp only [List.append_assoc] at M8
  exact M8
theorem es_blanks_loop (hP : P.length = 135) {m : Nat} : ∀ (j i : Nat) (X : List Int32) (h : AH), i + j = m → m < 1000 → ES P S n0 A0 X ln lg ad h → X.length + j < 16800 → (∀ h', ES P S n0 A0 (X ++ rp j) ln lg ad h' → Q none h') → wp (d + 2) 139 2 [some (.ref 135), some (.int (nI m)), some (.int (nI i))] [] h Q := by
  intro j
  induction j with
  | zero =>
    intro i X h hi hm M hb K
    have e1 : ¬ nI i < nI m := nI_nlt (by omega) (by omega)
    simp only [k_139_2, k_139_3, k_139_4, k_139_19, e1, if_false, am_cat, am_kill, Value.category, List.map_cons, List.map_nil, List.sum_cons, List.sum_nil, Option.toList_some, Option.toList_none, List.cons_append, List.nil_append, List.length_cons, List.length_nil, List.getD_cons_succ, List.getD_cons_zero, List.set_cons_succ, List.set_cons_zero, Nat.reduceAdd, Nat.reduceLT, Nat.reduceLeDiff, Nat.zero_le, Nat.zero_add, Nat.add_zero]
    exact K h (by rw [show rp 0 = [] from rfl, List.append_nil]; exact M)
  | succ j ih =>
    intro i X h hi hm M hb K
    have e1 : nI i < nI m := nI_lt (by omega) (by omega)
    simp only [k_139_2, k_139_3, k_139_4, k_139_7, k_139_7N, k_139_8, k_139_10, e1, if_true, M.ov hP, am_cat, am_kill, Value.category, List.map_cons, List.map_nil, List.sum_cons, List.sum_nil, Option.toList_some, Option.toList_none, List.cons_append, List.nil_append, List.length_cons, List.length_nil, List.getD_cons_succ, List.getD_cons_zero, List.set_cons_succ, List.set_cons_zero, Nat.reduceAdd, Nat.reduceLT, Nat.reduceLeDiff, Nat.zero_le, Nat.zero_add, Nat.add_zero]
    refine es_out hP ⟨by decide, by decide⟩ (by omega) M (fun h1 M1 => ?_)
    simp only [k_139_13, k_139_16, nI_1, am_cat, am_kill, Value.category, List.map_cons, List.map_nil, List.sum_cons, List.sum_nil, Option.toList_some, Option.toList_none, List.cons_append, List.nil_append, List.length_cons, List.length_nil, List.getD_cons_succ, List.getD_cons_zero, List.set_cons_succ, List.set_cons_zero, Nat.reduceAdd, Nat.reduceLT, Nat.reduceLeDiff, Nat.zero_le, Nat.zero_add, Nat.add_zero]
    refine ih (i + 1) _ h1 (by omega) hm M1 (by rw [List.length_append]; show X.length + 1 + j < _; omega) (fun h2 M2 => ?_)
    exact K h2 (by rw [List.append_assoc] at M2; exact M2)
theorem es_blanks (hP : P.length = 135) {m : Nat} (hm : m < 1000) (M : ES P S n0 A0 X ln lg ad h) (hb : X.length + m < 16800) (K : ∀ h', ES P S n0 A0 (X ++ rp m) ln lg ad h' → Q none h') : wp (d + 2) 139 0 [some (.ref 135), some (.int (nI m)), none] [] h Q := by
  simp only [k_139_0, k_139_1, am_cat, am_kill, Value.category, List.map_cons, List.map_nil, List.sum_cons, List.sum_nil, Option.toList_some, Option.toList_none, List.cons_append, List.nil_append, List.length_cons, List.length_nil, List.getD_cons_succ, List.getD_cons_zero, List.set_cons_succ, List.set_cons_zero, Nat.reduceAdd, Nat.reduceLT, Nat.reduceLeDiff, Nat.zero_le, Nat.zero_add, Nat.add_zero]
  exact es_blanks_loop hP m 0 X h (by omega) hm M hb K
theorem es_end (hP : P.length = 135) {Ls : List (List Int32)} {Y : List Int32} {br : Nat} (hl : mxl Ls < 20000) (hn : Ls.length < 20000) (M : ES P S n0 A0 (tx Ls ++ Y) Ls.length (mxl Ls) br h) (hb : (tx Ls).length + Y.length < 16800) (K : ∀ h', ES P S n0 A0 (tx (Ls ++ [Y])) (Ls ++ [Y]).length (mxl (Ls ++ [Y])) br h' → Q none h') : wp (d + 2) 138 0 [some (.ref 135), some (.int (nI (tx Ls).length))] [] h Q := by
  have hs : sN ≤ 135 := by decide
  obtain ⟨n, A, rfl, m1, m2, m3, m4, m5, m6, m7, m8⟩ := M
  rw [List.length_append] at m2
  have e1 : nI ((tx Ls).length + Y.length) - nI (tx Ls).length = nI Y.length := by rw [nI_sub2 (by omega)]; congr 1; omega
  have e2 : (nI (mxl Ls) < nI Y.length) ↔ mxl Ls < Y.length := nI_ltI (by omega) (by omega)
  have fin : ∀ (v : Nat → Int32), (∀ i, i ≠ 6 → i ≠ 7 → i ≠ 8 → i ≠ 9 → v i = n0 i) → v 6 = nI ((tx Ls).length + Y.length) → v 7 = nI Ls.length → v 8 = nI (max (mxl Ls) Y.length) → v 9 = nI br → wp (d + 2) 138 23 [some (.ref 135), some (.int (nI (tx Ls).length))] [] (wr P S v A) Q := by
    intro v v1 v2 v3 v4 v5
    have M1 : ES P S n0 A0 (tx Ls ++ Y) Ls.length (max (mxl Ls) Y.length) br (wr P S v A) := ⟨v, A, rfl, v1, by rw [List.length_append]; exact v2, v3, v4, v5, m6, m7, m8⟩
    simp only [k_138_23, k_138_23N, k_138_24, k_138_26, ovw hP, am_cat, am_kill, Value.category, List.map_cons, List.map_nil, List.sum_cons, List.sum_nil, Option.toList_some, Option.toList_none, List.cons_append, List.nil_append, List.length_cons, List.length_nil, List.getD_cons_succ, List.getD_cons_zero, List.set_cons_succ, List.set_cons_zero, Nat.reduceAdd, Nat.reduceLT, Nat.reduceLeDiff, Nat.zero_le, Nat.zero_add, Nat.add_zero]
    refine es_out hP ⟨by decide, by decide⟩ (by rw [List.length_append]; omega) M1 (fun h1 M2 => ?_)
    obtain ⟨n', A', rfl, p1, p2, p3, p4, p5, p6, p7, p8⟩ := M2
    simp only [k_138_29, k_138_29N, k_138_30, k_138_30i, k_138_34, k_138_35, k_138_39, k_138_31, k_138_36, ogw hP, fw_7 hP, hw_7 hP, hs, p3, nI_1, am_cat, am_kill, Value.category, List.map_cons, List.map_nil, List.sum_cons, List.sum_nil, Option.toList_some, Option.toList_none, List.cons_append, List.nil_append, List.length_cons, List.length_nil, List.getD_cons_succ, List.getD_cons_zero, List.set_cons_succ, List.set_cons_zero, Nat.reduceAdd, Nat.reduceLT, Nat.reduceLeDiff, Nat.zero_le, Nat.zero_add, Nat.add_zero]
    refine K _ ⟨_, A', rfl, fun i i1 i2 i3 i4 => by rw [pk_un i2]; exact p1 i i1 i2 i3 i4, ?_, ?_, ?_, by rw [pk_un (by decide)]; exact p5, p6, ?_, ?_⟩
    · rw [pk_un (by decide), p2, tx_app, List.append_assoc]
    · rw [pk_us, List.length_append]; rfl
    · rw [pk_un (by decide), p4, mxl_app]
    · rw [tx_app, ← List.append_assoc]; exact p7
    · rw [tx_app, ← List.append_assoc]; exact p8
  simp only [k_138_0, k_138_0N, k_138_4, k_138_5, k_138_6, k_138_6N, k_138_10, k_138_1, k_138_7, ogw hP, fw_6 hP, fw_8 hP, m2, m4, e1, e2, am_cat, am_kill, Value.category, List.map_cons, List.map_nil, List.sum_cons, List.sum_nil, Option.toList_some, Option.toList_none, List.cons_append, List.nil_append, List.length_cons, List.length_nil, List.getD_cons_succ, List.getD_cons_zero, List.set_cons_succ, List.set_cons_zero, Nat.reduceAdd, Nat.reduceLT, Nat.reduceLeDiff, Nat.zero_le, Nat.zero_add, Nat.add_zero]
  by_cases c : mxl Ls < Y.length
  · simp only [c, if_true, k_138_13, k_138_13N, k_138_14, k_138_14N, k_138_18, k_138_19, k_138_15, k_138_20, ogw hP, fw_6 hP, hw_8 hP, hs, m2, e1, am_cat, am_kill, Value.category, List.map_cons, List.map_nil, List.sum_cons, List.sum_nil, Option.toList_some, Option.toList_none, List.cons_append, List.nil_append, List.length_cons, List.length_nil, List.getD_cons_succ, List.getD_cons_zero, List.set_cons_succ, List.set_cons_zero, Nat.reduceAdd, Nat.reduceLT, Nat.reduceLeDiff, Nat.zero_le, Nat.zero_add, Nat.add_zero]
    exact fin _ (fun i i1 i2 i3 i4 => by rw [pk_un i3]; exact m1 i i1 i2 i3 i4) (by rw [pk_un (by decide)]; exact m2) (by rw [pk_un (by decide)]; exact m3) (by rw [pk_us]; congr 1; omega) (by rw [pk_un (by decide)]; exact m5)
  · simp only [c, if_false]
    exact fin n m1 m2 m3 (by rw [m4]; congr 1; omega) m5
end MTX
