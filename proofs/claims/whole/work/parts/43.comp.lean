/-! BUILDING: arrays, objects, rows -/
def litN (f : Nat → List Int32 × Nat) : Nat → Nat → Nat → List Int32 × Nat
  | 0, _, u => ([], u)
  | n + 1, i, u => (sep i ++ ((f u).1 ++ (litN f n (i + 1) (f u).2).1), (litN f n (i + 1) (f u).2).2)
def litR (f : Ty → Nat → List Int32 × Nat) : List Ty → Nat → Nat → List Int32 × Nat
  | [], _, u => ([], u)
  | τ :: l, i, u => (sep i ++ ((f τ u).1 ++ (litR f l (i + 1) (f τ u).2).1), (litR f l (i + 1) (f τ u).2).2)
def litB (D : List Int32) (base : Nat → List Int32 × Nat) (nm : List Int32) : Nat → Bool → Nat → List Int32 × Nat
  | 0, _, u => base u
  | b + 1, ins, u => if nx D u < 0 then (sx 4, u + 1) else ((if ins = true then [] else sx 5 ++ (nm ++ [32])) ++ ([123] ++ ((litN (litB D base nm b true) ((nx D u).toNatClampNeg % 4) 0 (u + 1)).1 ++ [125])), (litN (litB D base nm b true) ((nx D u).toNatClampNeg % 4) 0 (u + 1)).2)
def litO (D : List Int32) (R : List (List Ty)) (rec : Option (Ty → Nat → List Int32 × Nat)) (τ : Ty) (u : Nat) : List Int32 × Nat := if τ.2.1 = 79 then (match rec with
  | none => (sx 4, u + 1)
  | some f => if nx D u < 0 then (sx 4, u + 1) else (sx 28 ++ ([nI (48 + τ.2.2)] ++ ([40] ++ ((litR f (R.getD τ.2.2 []) 0 (u + 1)).1 ++ [41]))), (litR f (R.getD τ.2.2 []) 0 (u + 1)).2)) else litS D τ.2.1 u
def litT (D : List Int32) (R : List (List Ty)) : Nat → Ty → Nat → List Int32 × Nat
  | 0, τ, u => litB D (litO D R none τ) (arN τ) τ.1 false u
  | o + 1, τ, u => litB D (litO D R (some (litT D R o)) τ) (arN τ) τ.1 false u
def lev (D : List Int32) (R : List (List Ty)) : Nat → Option (Ty → Nat → List Int32 × Nat)
  | 0 => none
  | o + 1 => some (litT D R o)
theorem litT_eq (D : List Int32) (R : List (List Ty)) (o : Nat) (τ : Ty) (u : Nat) : litT D R o τ u = litB D (litO D R (lev D R o) τ) (arN τ) τ.1 false u := by cases o <;> rfl
theorem litN_mono {f : Nat → List Int32 × Nat} (hf : ∀ u, u ≤ (f u).2) : ∀ n i u, u ≤ (litN f n i u).2 := by
  intro n
  induction n with
  | zero => intro i u; exact Nat.le_refl _
  | succ n ih => intro i u; exact Nat.le_trans (hf u) (ih (i + 1) (f u).2)
theorem litR_mono {f : Ty → Nat → List Int32 × Nat} (hf : ∀ τ u, u ≤ (f τ u).2) : ∀ l i u, u ≤ (litR f l i u).2 := by
  intro l
  induction l with
  | nil => intro i u; exact Nat.le_refl _
  | cons τ l ih => intro i u; exact Nat.le_trans (hf τ u) (ih (i + 1) (f τ u).2)
theorem litB_mono {D : List Int32} {base : Nat → List Int32 × Nat} {nm : List Int32} (hb : ∀ u, u ≤ (base u).2) : ∀ b ins u, u ≤ (litB D base nm b ins u).2 := by
  intro b
  induction b with
  | zero => intro ins u; exact hb u
  | succ b ih =>
    intro ins u
    unfold litB
    split
    · exact Nat.le_succ _
    · exact Nat.le_trans (Nat.le_succ u) (litN_mono (fun u => ih true u) _ _ _)
theorem litO_mono {D : List Int32} {R : List (List Ty)} {rec : Option (Ty → Nat → List Int32 × Nat)} (hr : ∀ f, rec = some f → ∀ τ u, u ≤ (f τ u).2) (τ : Ty) (u : Nat) : u ≤ (litO D R rec τ u).2 := by
  unfold litO
  split
  · cases rec with
    | none => exact Nat.le_succ _
    | some f =>
      dsimp only
      split
      · exact Nat.le_succ _
      · exact Nat.le_trans (Nat.le_succ u) (litR_mono (hr f rfl) _ _ _)
  · exact Nat.le_trans (Nat.le_succ u) (litS_mono D τ.2.1 u)
theorem litT_mono (D : List Int32) (R : List (List Ty)) : ∀ o τ u, u ≤ (litT D R o τ u).2 := by
  intro o
  induction o with
  | zero => intro τ u; exact litB_mono (litO_mono (fun f q => by cases q) τ) _ _ _
  | succ o ih => intro τ u; exact litB_mono (litO_mono (fun f q => by cases q; exact ih) τ) _ _ _
theorem lev_mono (D : List Int32) (R : List (List Ty)) (o : Nat) : ∀ f, lev D R o = some f → ∀ τ u, u ≤ (f τ u).2 := by
  intro f hf
  cases o with
  | zero => cases hf
  | succ o => cases hf; exact litT_mono D R o
/-- the text so far, t, is what it should be, x; or both are too long, and the numbers are used up -/
def Cut (D x t : List Int32) (u : Nat) : Prop := t = x ∨ (300 < t.length ∧ 300 < x.length ∧ D.length ≤ u)
theorem Cut.app {D x t : List Int32} {u u' : Nat} (C : Cut D x t u) (hu : u ≤ u') (w : List Int32) : Cut D (x ++ w) (t ++ w) u' := by
  rcases C with rfl | ⟨c1, c2, c3⟩
  · exact Or.inl rfl
  · exact Or.inr ⟨by rw [List.length_append]; omega, by rw [List.length_append]; omega, by omega⟩
def LB (D : List Int32) (c : Nat) (t : List Int32) (u : Nat) (t' : List Int32) (u' : Nat) : Prop := t'.length + 100 * min u D.length ≤ t.length + 100 * min u' D.length ∨ t'.length + 100 * min u D.length ≤ 300 + c + 100 * min u' D.length
def BuildS (g : AH) (a ar0 : Nat) (cs0 : List Value) (D : List Int32) (vs : List Value) (R : List (List Ty)) (o b : Nat) : Prop := ∀ (n j p u : Nat) (τ : Ty) (h : AH) (t x : List Int32) (Q : Option Value → AH → Prop), okT τ → b + j = τ.1 → 10 + 10 * o + 2 * b ≤ n → g[p]? = some (tyc τ) → sN ≤ p → BI g a ar0 cs0 D vs h t u → Cut D x t u → t.length + 100 * D.length + (100 + 200 * o + 50 * b) ≤ 20000 + 100 * min u D.length → (∀ (h' : AH) (t' : List Int32), BI g a ar0 cs0 D vs h' t' (litB D (litO D R (lev D R o) τ) (arN τ) b (decide (0 < j)) u).2 → Cut D (x ++ (litB D (litO D R (lev D R o) τ) (arN τ) b (decide (0 < j)) u).1) t' (litB D (litO D R (lev D R o) τ) (arN τ) b (decide (0 < j)) u).2 → LB D (60 + 40 * o + 10 * b) t u t' (litB D (litO D R (lev D R o) τ) (arN τ) b (decide (0 < j)) u).2 → Q none h') → wp n 39 0 [some (.ref 111), some (.ref p), some (.int (nI j)), some (.int (nI (4 - o))), some (.ref a)] [] h Q
theorem sep_len (i : Nat) : (sep i).length ≤ 2 := by
  unfold sep
  split <;> decide
theorem arN_len {τ : Ty} (h : τ.1 ≤ 3) : (arN τ).length ≤ 14 := by
  have := elN_len τ.2.1
  have := brs_len τ.1
  unfold arN
  rw [List.length_append, List.length_append]
  split
  · show _ + (1 + _) ≤ _; omega
  · show _ + (0 + _) ≤ _; omega
section COMP
variable {g h : AH} {a ar0 d u : Nat} {cs0 vs : List Value} {D t x : List Int32} {R : List (List Ty)} {Q : Option Value → AH → Prop}
theorem BI.dl (B : BI g a ar0 cs0 D vs h t u) : D.length ≤ 60 := B.2.2.1.2.2.2.2.1
theorem bi_arN {p : Nat} {τ : Ty} {o : Option Value} (hτ : okT τ) (hp : sN ≤ p) (hg : g[p]? = some (tyc τ)) (B : BI g a ar0 cs0 D vs h t u) (S : Sta g) (hb : t.length < 2 ^ 18) (K : ∀ h', BI g a ar0 cs0 D vs h' (t ++ arN τ) u → Q none h') : wp (d + 5) 44 0 [some (.ref p), some (.ref a), o] [] h Q := by
  obtain ⟨ar, cs, H, A⟩ := B.app
  exact sp_arN hτ.1 hτ.2.1 hτ.2.2 hp H (B.sta S) (B.st hg (by simp [tyc]) (by simp [tyc]) (by simp [tyc])) hb (A _ _ K)
theorem bi_head {n : Nat} {o1 o2 o3 : Option Value} (B : BI g a ar0 cs0 D vs h t u) (E : En g R) (C : Cut D x t u) (K1 : 300 < t.length → D.length ≤ u → Q none h) (K2 : t = x → ¬ (300 < t.length ∧ D.length ≤ u) → wp (n + 2) 39 22 [some (.ref 111), o1, o2, o3, some (.ref a)] [] h Q) : wp (n + 2) 39 0 [some (.ref 111), o1, o2, o3, some (.ref a)] [] h Q := by
  obtain ⟨ar, cs, H, -⟩ := B.app
  have h3 := H.2.2.1
  have h7 := H.2.2.2.2.2.2.1
  have b1 := E.b1 B
  have Dt := B.2.2.1
  have e1 : ((300 : Int32) < nI t.length) ↔ 300 < t.length := nI_ltI (a := 300) (by omega) (by omega)
  have z0 : ((0 : Int32) = 0) ↔ True := by decide
  have z1 : ((1 : Int32) = 0) ↔ False := by decide
  have res : ¬ (300 < t.length ∧ D.length ≤ u) → t = x := fun hn => by
    rcases C with c | ⟨c1, c2, c3⟩
    · exact c
    · exact absurd ⟨c1, c3⟩ hn
  simp only [k_39_0, k_39_0N, k_39_5, k_39_8, k_39_2, B.ov, sp_len H, e1, am_cat, am_kill, Value.category, List.map_cons, List.map_nil, List.sum_cons, List.sum_nil, Option.toList_some, Option.toList_none, List.cons_append, List.nil_append, List.length_cons, List.length_nil, List.getD_cons_succ, List.getD_cons_zero, List.set_cons_succ, List.set_cons_zero, Nat.reduceAdd, Nat.reduceLT, Nat.reduceLeDiff, Nat.zero_le, Nat.zero_add, Nat.add_zero]
  by_cases c : 300 < t.length
  · simp only [c, if_true, k_39_11, k_39_11N, k_39_12, k_39_15, okG_iff b1, fld_of b1, B.od, sp_usedUp Dt, am_cat, am_kill, Value.category, List.map_cons, List.map_nil, List.sum_cons, List.sum_nil, Option.toList_some, Option.toList_none, List.cons_append, List.nil_append, List.length_cons, List.length_nil, List.getD_cons_succ, List.getD_cons_zero, List.set_cons_succ, List.set_cons_zero, Nat.reduceAdd, Nat.reduceLT, Nat.reduceLeDiff, Nat.zero_le, Nat.zero_add, Nat.add_zero]
    by_cases c2 : min u D.length < D.length
    · have hn : ¬ (300 < t.length ∧ D.length ≤ u) := by omega
      simp only [c2, if_true, k_39_18, z0]
      exact K2 (res hn) hn
    · simp only [c2, if_false, k_39_18, k_39_21, z1]
      exact K1 c (by omega)
  · have hn : ¬ (300 < t.length ∧ D.length ≤ u) := by omega
    simp only [c, if_false]
    exact K2 (res hn) hn
theorem bi_rget {r q j : Nat} {l : List Ty} (W : Row g r q l) (hj : j < l.length) : ∃ p, g[p]? = some (tyc l[j]) ∧ sN ≤ p ∧ ∀ {h : AH} {t : List Int32} {u d : Nat} {Q : Option Value → AH → Prop}, BI g a ar0 cs0 D vs h t u → (wp d 38 0 [some (.ref r), some (.int (nI j))] [] h Q ↔ Q (some (.ref p)) h) := by
  obtain ⟨ws, h1, h2, h3, h4, h5, h6, h7⟩ := W
  obtain ⟨p, p1, p2, p3⟩ := h7 j l[j] (by simp [hj])
  refine ⟨p, p2, p3, fun {h t u d Q} B => ?_⟩
  have g1 := B.st h1 (by simp) (by simp) (by simp)
  have g2 := B.st h2 (by simp) (by simp) (by simp)
  have hc := nI_clamp (n := j) (by omega)
  have e1 : okA am_isO h q (nI j) := ⟨_, ws, g2, rfl, nI_pos (by omega), by rw [hc]; omega⟩
  simp only [k_38_0, k_38_0N, k_38_4, k_38_1, okG_iff g1, fld_of g1, am_cat, am_kill, Value.category, List.map_cons, List.map_nil, List.sum_cons, List.sum_nil, Option.toList_some, Option.toList_none, List.cons_append, List.nil_append, List.length_cons, List.length_nil, List.getD_cons_succ, List.getD_cons_zero, List.set_cons_succ, List.set_cons_zero, Nat.reduceAdd, Nat.reduceLT, Nat.reduceLeDiff, Nat.zero_le, Nat.zero_add, Nat.add_zero]
  rw [k_38_5 e1, arr_of g2, hc, List.getD_eq_getElem?_getD, p1]
  show wp d _ 6 _ [.ref p] h Q ↔ _
  simp only [k_38_6, k_38_6N]
theorem bi_row {o n r q : Nat} {full : List Ty} (hB : ∀ b, b ≤ 3 → BuildS g a ar0 cs0 D vs R o b) (ho : o ≤ 4) (E : En g R) (W : Row g r q full) (hn : 17 + 10 * o ≤ n) : ∀ (l pre : List Ty) (i u : Nat) (h : AH) (t x : List Int32), full = pre ++ l → pre.length = i → (∀ τ ∈ l, okT τ) → BI g a ar0 cs0 D vs h t u → Cut D x t u → t.length + 100 * D.length + (250 + 200 * o) + 2 * l.length ≤ 20000 + 100 * min u D.length → (∀ (h' : AH) (t' : List Int32), BI g a ar0 cs0 D vs h' t' (litR (litT D R o) l i u).2 → Cut D (x ++ (litR (litT D R o) l i u).1) t' (litR (litT D R o) l i u).2 → (t'.length + 100 * min u D.length ≤ t.length + 2 * l.length + 100 * min (litR (litT D R o) l i u).2 D.length ∨ t'.length + 100 * min u D.length ≤ 390 + 40 * o + 2 * l.length + 100 * min (litR (litT D R o) l i u).2 D.length) → Q none h') → wp n 36 3 [some (.ref 111), some (.ref r), some (.int (nI (4 - o))), some (.ref a), some (.int (nI i))] [] h Q := by
  obtain ⟨n, rfl⟩ : ∃ n', n = n' + 8 := ⟨n - 8, by omega⟩
  have w4 : full.length ≤ 4 := W.choose_spec.2.2.2.1
  intro l
  induction l with
  | nil =>
    intro pre i u h t x hf hi hτ B C hb K
    have Wh := B.row W
    have g1 := Wh.choose_spec.1
    rw [List.append_nil] at hf
    have e1 : ¬ nI i < nI full.length := nI_nlt (by rw [hf]; omega) (by rw [hf] at w4; omega)
    simp only [k_36_3, k_36_5, k_36_5N, k_36_9, k_36_37, k_36_6, okV_iff g1, sp_rsize Wh, e1, if_false, am_cat, am_kill, Value.category, List.map_cons, List.map_nil, List.sum_cons, List.sum_nil, Option.toList_some, Option.toList_none, List.cons_append, List.nil_append, List.length_cons, List.length_nil, List.getD_cons_succ, List.getD_cons_zero, List.set_cons_succ, List.set_cons_zero, Nat.reduceAdd, Nat.reduceLT, Nat.reduceLeDiff, Nat.zero_le, Nat.zero_add, Nat.add_zero]
    exact K h t B (by rw [show (litR (litT D R o) [] i u).1 = [] from rfl, List.append_nil]; exact C) (Or.inl (by show t.length + 100 * min u D.length ≤ t.length + 2 * 0 + 100 * min u D.length; omega))
  | cons τ l ih =>
    intro pre i u h t x hf hi hτ B C hb K
    have Wh := B.row W
    have g1 := Wh.choose_spec.1
    have b1 := E.b1 B
    have hlen : full.length = i + (l.length + 1) := by rw [hf, List.length_append, hi]; rfl
    have e1 : nI i < nI full.length := nI_lt (by omega) (by omega)
    have hD := B.dl
    rw [List.length_cons] at hb
    have hs := sep_len i
    have hτ1 := hτ τ (List.mem_cons_self ..)
    simp only [k_36_3, k_36_5, k_36_5N, k_36_9, k_36_12, k_36_14, k_36_14N, k_36_6, k_36_15, okV_iff g1, sp_rsize Wh, e1, if_true, am_cat, am_kill, Value.category, List.map_cons, List.map_nil, List.sum_cons, List.sum_nil, Option.toList_some, Option.toList_none, List.cons_append, List.nil_append, List.length_cons, List.length_nil, List.getD_cons_succ, List.getD_cons_zero, List.set_cons_succ, List.set_cons_zero, Nat.reduceAdd, Nat.reduceLT, Nat.reduceLeDiff, Nat.zero_le, Nat.zero_add, Nat.add_zero]
    refine bi_sep B E.1 (by omega) (by omega) (fun h1 B1 => ?_)
    have hj : i < full.length := by omega
    obtain ⟨p, p1, p2, p3⟩ := bi_rget (a := a) (ar0 := ar0) (cs0 := cs0) (D := D) (vs := vs) W hj
    have hfi : full[i] = τ := by
      subst hf
      rw [List.getElem_append_right (by omega)]
      simp [hi]
    rw [hfi] at p1
    have W1 := B1.row W
    have k1 := W1.choose_spec.1
    have b2 := E.b1 B1
    simp only [k_36_18, k_36_18N, k_36_19, k_36_19N, k_36_20, k_36_22, okV_iff k1, p3 B1, am_cat, am_kill, Value.category, List.map_cons, List.map_nil, List.sum_cons, List.sum_nil, Option.toList_some, Option.toList_none, List.cons_append, List.nil_append, List.length_cons, List.length_nil, List.getD_cons_succ, List.getD_cons_zero, List.set_cons_succ, List.set_cons_zero, Nat.reduceAdd, Nat.reduceLT, Nat.reduceLeDiff, Nat.zero_le, Nat.zero_add, Nat.add_zero]
    simp only [k_36_25, k_36_26, k_36_27, k_36_27N, k_36_28, okV_iff b2, am_cat, am_kill, Value.category, List.map_cons, List.map_nil, List.sum_cons, List.sum_nil, Option.toList_some, Option.toList_none, List.cons_append, List.nil_append, List.length_cons, List.length_nil, List.getD_cons_succ, List.getD_cons_zero, List.set_cons_succ, List.set_cons_zero, Nat.reduceAdd, Nat.reduceLT, Nat.reduceLeDiff, Nat.zero_le, Nat.zero_add, Nat.add_zero]
    have eT := litT_eq D R o τ u
    refine hB τ.1 hτ1.1 (n + 7) 0 p u τ h1 (t ++ sep i) (x ++ sep i) _ hτ1 (by omega) (by have := hτ1.1; omega) p1 p2 B1 (C.app (Nat.le_refl _) _) (by rw [List.length_append]; have := hτ1.1; omega) (fun h2 t2 B2 C2 L2 => ?_)
    rw [show decide (0 < 0) = false from rfl, ← eT] at B2 C2 L2
    simp only [k_36_31, k_36_34, nI_1, am_cat, am_kill, Value.category, List.map_cons, List.map_nil, List.sum_cons, List.sum_nil, Option.toList_some, Option.toList_none, List.cons_append, List.nil_append, List.length_cons, List.length_nil, List.getD_cons_succ, List.getD_cons_zero, List.set_cons_succ, List.set_cons_zero, Nat.reduceAdd, Nat.reduceLT, Nat.reduceLeDiff, Nat.zero_le, Nat.zero_add, Nat.add_zero]
    have hu1 := litT_mono D R o τ u
    have hu2 := litR_mono (litT_mono D R o) l (i + 1) (litT D R o τ u).2
    have hτ3 := hτ1.1
    unfold LB at L2
    rw [List.length_append] at L2
    refine ih (pre ++ [τ]) (i + 1) (litT D R o τ u).2 h2 t2 _ (by rw [hf, List.append_assoc]; rfl) (by rw [List.length_append, hi]; rfl) (fun σ hσ => hτ σ (List.mem_cons_of_mem _ hσ)) B2 C2 (by omega) (fun h3 t3 B3 C3 L3 => ?_)
    refine K h3 t3 B3 ?_ ?_
    · rw [List.append_assoc, List.append_assoc] at C3
      exact C3
    · rw [List.length_cons]
      show _ ≤ _ + 100 * min (litR (litT D R o) l (i + 1) (litT D R o τ u).2).2 D.length ∨ _ ≤ _ + 100 * min (litR (litT D R o) l (i + 1) (litT D R o τ u).2).2 D.length
      omega
theorem bi_obj {o n : Nat} {τ : Ty} (hB : ∀ o', o = o' + 1 → ∀ b, b ≤ 3 → BuildS g a ar0 cs0 D vs R o' b) (ho : o ≤ 4) (E : En g R) (hn : 9 + 10 * o ≤ n) (h79 : τ.2.1 = 79) (hk : τ.2.2 < 4) (B : BI g a ar0 cs0 D vs h t u) (hx : ¬ (300 < t.length ∧ D.length ≤ u)) (hb : t.length + 100 * D.length + (100 + 200 * o) ≤ 20000 + 100 * min u D.length) (K : ∀ (h' : AH) (t' : List Int32), BI g a ar0 cs0 D vs h' t' (litO D R (lev D R o) τ u).2 → Cut D (t ++ (litO D R (lev D R o) τ u).1) t' (litO D R (lev D R o) τ u).2 → LB D (60 + 40 * o) t u t' (litO D R (lev D R o) τ u).2 → Q none h') : wp n 54 0 [some (.ref 111), some (.int (nI τ.2.2)), some (.int (nI (4 - o))), some (.ref a), none] [] h Q := by
  obtain ⟨n, rfl⟩ : ∃ n', n = n' + 8 := ⟨n - 8, by omega⟩
  have hD := B.dl
  have b1 := E.b1 B
  have s4 : (sx 4).length = 4 := rfl
  have s28 : (sx 28).length = 5 := rfl
  have nul : ∀ h1, BI g a ar0 cs0 D vs h1 t (u + 1) → (litO D R (lev D R o) τ u) = (sx 4, u + 1) → ∀ o4, wp (n + 8) 54 19 [some (.ref 111), some (.int (nI τ.2.2)), some (.int (nI (4 - o))), some (.ref a), o4] [] h1 Q := by
    intro h1 B1 e o4
    rw [e] at K
    simp only [k_54_19, k_54_19N, k_54_20, k_54_22, B1.ov, am_cat, am_kill, Value.category, List.map_cons, List.map_nil, List.sum_cons, List.sum_nil, Option.toList_some, Option.toList_none, List.cons_append, List.nil_append, List.length_cons, List.length_nil, List.getD_cons_succ, List.getD_cons_zero, List.set_cons_succ, List.set_cons_zero, Nat.reduceAdd, Nat.reduceLT, Nat.reduceLeDiff, Nat.zero_le, Nat.zero_add, Nat.add_zero]
    refine bi_puts (i := 4) B1 E.1 (by decide) (by omega) (fun h2 B2 => ?_)
    simp only [k_54_25, am_cat, am_kill, Value.category, List.map_cons, List.map_nil, List.sum_cons, List.sum_nil, Option.toList_some, Option.toList_none, List.cons_append, List.nil_append, List.length_cons, List.length_nil, List.getD_cons_succ, List.getD_cons_zero, List.set_cons_succ, List.set_cons_zero, Nat.reduceAdd, Nat.reduceLT, Nat.reduceLeDiff, Nat.zero_le, Nat.zero_add, Nat.add_zero]
    refine K h2 _ B2 (Or.inl rfl) ?_
    unfold LB
    rw [List.length_append, s4]
    omega
  simp only [k_54_0, k_54_0N, k_54_1, k_54_4, okG_iff b1, fld_of b1, B.od, am_cat, am_kill, Value.category, List.map_cons, List.map_nil, List.sum_cons, List.sum_nil, Option.toList_some, Option.toList_none, List.cons_append, List.nil_append, List.length_cons, List.length_nil, List.getD_cons_succ, List.getD_cons_zero, List.set_cons_succ, List.set_cons_zero, Nat.reduceAdd, Nat.reduceLT, Nat.reduceLeDiff, Nat.zero_le, Nat.zero_add, Nat.add_zero]
  refine bi_next B (fun h1 B1 => ?_)
  simp only [k_54_7, k_54_9, k_54_11, am_cat, am_kill, Value.category, List.map_cons, List.map_nil, List.sum_cons, List.sum_nil, Option.toList_some, Option.toList_none, List.cons_append, List.nil_append, List.length_cons, List.length_nil, List.getD_cons_succ, List.getD_cons_zero, List.set_cons_succ, List.set_cons_zero, Nat.reduceAdd, Nat.reduceLT, Nat.reduceLeDiff, Nat.zero_le, Nat.zero_add, Nat.add_zero]
  by_cases c : nx D u < 0
  · rw [if_pos c]
    refine nul h1 B1 ?_ _
    unfold litO
    rw [if_pos h79]
    cases o with
    | zero => rfl
    | succ o' => show (if nx D u < 0 then _ else _) = _; rw [if_pos c]
  rw [if_neg c]
  have e4 : (nI (4 - o) < (4 : Int32)) ↔ 4 - o < 4 := nI_ltI (b := 4) (by omega) (by omega)
  simp only [k_54_14, k_54_15, k_54_16, e4, am_cat, am_kill, Value.category, List.map_cons, List.map_nil, List.sum_cons, List.sum_nil, Option.toList_some, Option.toList_none, List.cons_append, List.nil_append, List.length_cons, List.length_nil, List.getD_cons_succ, List.getD_cons_zero, List.set_cons_succ, List.set_cons_zero, Nat.reduceAdd, Nat.reduceLT, Nat.reduceLeDiff, Nat.zero_le, Nat.zero_add, Nat.add_zero]
  cases o with
  | zero =>
    rw [if_neg (by omega)]
    refine nul h1 B1 ?_ _
    unfold litO
    rw [if_pos h79]
    rfl
  | succ o' =>
    rw [if_pos (by omega)]
    have eO : litO D R (lev D R (o' + 1)) τ u = (sx 28 ++ ([nI (48 + τ.2.2)] ++ ([40] ++ ((litR (litT D R o') (R.getD τ.2.2 []) 0 (u + 1)).1 ++ [41]))), (litR (litT D R o') (R.getD τ.2.2 []) 0 (u + 1)).2) := by
      unfold litO
      rw [if_pos h79]
      show (if nx D u < 0 then _ else _) = _
      rw [if_neg c]
    rw [eO] at K
    dsimp only at K
    have ec : (48 : Int32) + nI τ.2.2 = nI (48 + τ.2.2) := nI_add 48 _
    simp only [k_54_26, k_54_26N, k_54_27, k_54_29, B1.ov, am_cat, am_kill, Value.category, List.map_cons, List.map_nil, List.sum_cons, List.sum_nil, Option.toList_some, Option.toList_none, List.cons_append, List.nil_append, List.length_cons, List.length_nil, List.getD_cons_succ, List.getD_cons_zero, List.set_cons_succ, List.set_cons_zero, Nat.reduceAdd, Nat.reduceLT, Nat.reduceLeDiff, Nat.zero_le, Nat.zero_add, Nat.add_zero]
    refine bi_puts (i := 28) B1 E.1 (by decide) (by omega) (fun h2 B2 => ?_)
    simp only [k_54_32, k_54_32N, k_54_33, k_54_35, k_54_36, k_54_37, B2.ov, ec, am_cat, am_kill, Value.category, List.map_cons, List.map_nil, List.sum_cons, List.sum_nil, Option.toList_some, Option.toList_none, List.cons_append, List.nil_append, List.length_cons, List.length_nil, List.getD_cons_succ, List.getD_cons_zero, List.set_cons_succ, List.set_cons_zero, Nat.reduceAdd, Nat.reduceLT, Nat.reduceLeDiff, Nat.zero_le, Nat.zero_add, Nat.add_zero]
    refine bi_put B2 (chr_nI (by omega)) (by rw [List.length_append, s28]; omega) (fun h3 B3 => ?_)
    simp only [k_54_40, k_54_40N, k_54_41, k_54_43, B3.ov, am_cat, am_kill, Value.category, List.map_cons, List.map_nil, List.sum_cons, List.sum_nil, Option.toList_some, Option.toList_none, List.cons_append, List.nil_append, List.length_cons, List.length_nil, List.getD_cons_succ, List.getD_cons_zero, List.set_cons_succ, List.set_cons_zero, Nat.reduceAdd, Nat.reduceLT, Nat.reduceLeDiff, Nat.zero_le, Nat.zero_add, Nat.add_zero]
    refine bi_put B3 ⟨by decide, by decide⟩ (by simp only [List.length_append, s28, List.length_cons, List.length_nil]; omega) (fun h4 B4 => ?_)
    obtain ⟨-, -, rr, r1, r2, r3⟩ := id E
    have b4 := E.b1 B4
    have r4 := B4.st r1 (by simp) (by simp) (by simp)
    have hkr : τ.2.2 < rr.length := by omega
    obtain ⟨q, W, hτs⟩ := r3 τ.2.2 rr[τ.2.2] (by simp [hkr])
    have hc := nI_clamp (n := τ.2.2) (by omega)
    have e5 : okA am_isO h4 114 (nI τ.2.2) := ⟨_, rr.map Value.ref, r4, rfl, nI_pos (by omega), by rw [hc, List.length_map]; omega⟩
    have e6 : (rr.map Value.ref).getD τ.2.2 .null = .ref rr[τ.2.2] := by rw [List.getD_eq_getElem?_getD, List.getElem?_map, List.getElem?_eq_getElem hkr]; rfl
    have e7 : nI (4 - (o' + 1)) + 1 = nI (4 - o') := by rw [nI_1]; congr 1; omega
    simp only [k_54_46, k_54_46N, k_54_47, k_54_47N, k_54_51, k_54_48, k_54_52 e5, arr_of r4, hc, e6, okG_iff b4, fld_of b4, okV_iff b4, am_cat, am_kill, Value.category, List.map_cons, List.map_nil, List.sum_cons, List.sum_nil, Option.toList_some, Option.toList_none, List.cons_append, List.nil_append, List.length_cons, List.length_nil, List.getD_cons_succ, List.getD_cons_zero, List.set_cons_succ, List.set_cons_zero, Nat.reduceAdd, Nat.reduceLT, Nat.reduceLeDiff, Nat.zero_le, Nat.zero_add, Nat.add_zero]
    simp only [k_54_53, k_54_54, k_54_55, k_54_56, k_54_56N, k_54_57, e7, okV_iff b4, am_cat, am_kill, Value.category, List.map_cons, List.map_nil, List.sum_cons, List.sum_nil, Option.toList_some, Option.toList_none, List.cons_append, List.nil_append, List.length_cons, List.length_nil, List.getD_cons_succ, List.getD_cons_zero, List.set_cons_succ, List.set_cons_zero, Nat.reduceAdd, Nat.reduceLT, Nat.reduceLeDiff, Nat.zero_le, Nat.zero_add, Nat.add_zero]
    simp only [k_36_0, k_36_1, am_cat, am_kill, Value.category, List.map_cons, List.map_nil, List.sum_cons, List.sum_nil, Option.toList_some, Option.toList_none, List.cons_append, List.nil_append, List.length_cons, List.length_nil, List.getD_cons_succ, List.getD_cons_zero, List.set_cons_succ, List.set_cons_zero, Nat.reduceAdd, Nat.reduceLT, Nat.reduceLeDiff, Nat.zero_le, Nat.zero_add, Nat.add_zero]
    have hl4 : (R.getD τ.2.2 []).length ≤ 4 := W.choose_spec.2.2.2.1
    have hu2 := litR_mono (litT_mono D R o') (R.getD τ.2.2 []) 0 (u + 1)
    refine bi_row (hB o' rfl) (by omega) E W (by omega) (R.getD τ.2.2 []) [] 0 (u + 1) h4 _ _ rfl rfl hτs B4 (Or.inl rfl) (by simp only [List.length_append, s28, List.length_cons, List.length_nil]; omega) (fun h5 t5 B5 C5 L5 => ?_)
    simp only [List.length_append, s28, List.length_cons, List.length_nil] at L5
    simp only [k_54_60, k_54_60N, k_54_61, k_54_63, B5.ov, am_cat, am_kill, Value.category, List.map_cons, List.map_nil, List.sum_cons, List.sum_nil, Option.toList_some, Option.toList_none, List.cons_append, List.nil_append, List.length_cons, List.length_nil, List.getD_cons_succ, List.getD_cons_zero, List.set_cons_succ, List.set_cons_zero, Nat.reduceAdd, Nat.reduceLT, Nat.reduceLeDiff, Nat.zero_le, Nat.zero_add, Nat.add_zero]
    refine bi_put B5 ⟨by decide, by decide⟩ (by omega) (fun h6 B6 => ?_)
    simp only [k_54_66, am_cat, am_kill, Value.category, List.map_cons, List.map_nil, List.sum_cons, List.sum_nil, Option.toList_some, Option.toList_none, List.cons_append, List.nil_append, List.length_cons, List.length_nil, List.getD_cons_succ, List.getD_cons_zero, List.set_cons_succ, List.set_cons_zero, Nat.reduceAdd, Nat.reduceLT, Nat.reduceLeDiff, Nat.zero_le, Nat.zero_add, Nat.add_zero]
    refine K h6 _ B6 ?_ ?_
    · have := C5.app (Nat.le_refl _) [41]
      simp only [List.append_assoc] at this
      exact this
    · unfold LB
      simp only [List.length_append, List.length_cons, List.length_nil]
      omega
theorem bi_arr_loop {o b n j p m : Nat} {τ : Ty} (hB : BuildS g a ar0 cs0 D vs R o b) (ho : o ≤ 4) (hb3 : b ≤ 2) (hm : m < 2 ^ 31) (E : En g R) (hn : 11 + 10 * o + 2 * b ≤ n) (hτ : okT τ) (hj : b + (j + 1) = τ.1) (hp : g[p]? = some (tyc τ)) (hs : sN ≤ p) : ∀ (k i u : Nat) (h : AH) (t x : List Int32), i + k = m % 4 → BI g a ar0 cs0 D vs h t u → Cut D x t u → t.length + 100 * D.length + (100 + 200 * o + 50 * b) + 2 * k ≤ 20000 + 100 * min u D.length → (∀ (h' : AH) (t' : List Int32), BI g a ar0 cs0 D vs h' t' (litN (litB D (litO D R (lev D R o) τ) (arN τ) b true) k i u).2 → Cut D (x ++ (litN (litB D (litO D R (lev D R o) τ) (arN τ) b true) k i u).1) t' (litN (litB D (litO D R (lev D R o) τ) (arN τ) b true) k i u).2 → (t'.length + 100 * min u D.length ≤ t.length + 2 * k + 100 * min (litN (litB D (litO D R (lev D R o) τ) (arN τ) b true) k i u).2 D.length ∨ t'.length + 100 * min u D.length ≤ 360 + 40 * o + 10 * b + 2 * k + 100 * min (litN (litB D (litO D R (lev D R o) τ) (arN τ) b true) k i u).2 D.length) → wp n 42 89 [some (.ref 111), some (.ref p), some (.int (nI j)), some (.int (nI (4 - o))), some (.ref a), some (.int (nI m)), some (.int (nI (m % 4)))] [] h' Q) → wp n 42 56 [some (.ref 111), some (.ref p), some (.int (nI j)), some (.int (nI (4 - o))), some (.ref a), some (.int (nI m)), some (.int (nI i))] [] h Q := by
  obtain ⟨n, rfl⟩ : ∃ n', n = n' + 8 := ⟨n - 8, by omega⟩
  have h4 : ¬ (4 : Int32) = 0 := by decide
  have e1 : nI m - nI m / 4 * 4 = nI (m % 4) := pk_rem (d := 4) hm (by decide) (by decide)
  have mono : ∀ u, u ≤ (litB D (litO D R (lev D R o) τ) (arN τ) b true u).2 := litB_mono (litO_mono (lev_mono D R o) τ) b true
  intro k
  induction k with
  | zero =>
    intro i u h t x hi B C hb K
    have e2 : ¬ nI i < nI (m % 4) := nI_nlt (by omega) (by omega)
    simp only [k_42_56, k_42_58, k_42_60, k_42_61 h4, k_42_62, e1, e2, if_false, am_cat, am_kill, Value.category, List.map_cons, List.map_nil, List.sum_cons, List.sum_nil, Option.toList_some, Option.toList_none, List.cons_append, List.nil_append, List.length_cons, List.length_nil, List.getD_cons_succ, List.getD_cons_zero, List.set_cons_succ, List.set_cons_zero, Nat.reduceAdd, Nat.reduceLT, Nat.reduceLeDiff, Nat.zero_le, Nat.zero_add, Nat.add_zero]
    rw [show i = m % 4 by omega]
    exact K h t B (by rw [show ∀ f i, (litN f 0 i u).1 = [] from fun _ _ => rfl, List.append_nil]; exact C) (Or.inl (by show t.length + 100 * min u D.length ≤ t.length + 2 * 0 + 100 * min u D.length; omega))
  | succ k ih =>
    intro i u h t x hi B C hb K
    have e2 : nI i < nI (m % 4) := nI_lt (by omega) (by omega)
    have hD := B.dl
    have hsl := sep_len i
    have b1 := E.b1 B
    simp only [k_42_56, k_42_58, k_42_60, k_42_61 h4, k_42_62, k_42_65, k_42_67, k_42_67N, k_42_69, e1, e2, if_true, am_cat, am_kill, Value.category, List.map_cons, List.map_nil, List.sum_cons, List.sum_nil, Option.toList_some, Option.toList_none, List.cons_append, List.nil_append, List.length_cons, List.length_nil, List.getD_cons_succ, List.getD_cons_zero, List.set_cons_succ, List.set_cons_zero, Nat.reduceAdd, Nat.reduceLT, Nat.reduceLeDiff, Nat.zero_le, Nat.zero_add, Nat.add_zero]
    refine bi_sep B E.1 (by omega) (by omega) (fun h1 B1 => ?_)
    have b2 := E.b1 B1
    simp only [k_42_72, k_42_72N, k_42_73, k_42_73N, k_42_74, k_42_75, k_42_76, k_42_77, k_42_78, k_42_78N, k_42_80, nI_1, okV_iff b2, am_cat, am_kill, Value.category, List.map_cons, List.map_nil, List.sum_cons, List.sum_nil, Option.toList_some, Option.toList_none, List.cons_append, List.nil_append, List.length_cons, List.length_nil, List.getD_cons_succ, List.getD_cons_zero, List.set_cons_succ, List.set_cons_zero, Nat.reduceAdd, Nat.reduceLT, Nat.reduceLeDiff, Nat.zero_le, Nat.zero_add, Nat.add_zero]
    refine hB (n + 7) (j + 1) p u τ h1 (t ++ sep i) (x ++ sep i) _ hτ hj (by omega) hp hs B1 (C.app (Nat.le_refl _) _) (by rw [List.length_append]; omega) (fun h2 t2 B2 C2 L2 => ?_)
    rw [show decide (0 < j + 1) = true by simp] at B2 C2 L2
    simp only [k_42_83, k_42_86, nI_1, am_cat, am_kill, Value.category, List.map_cons, List.map_nil, List.sum_cons, List.sum_nil, Option.toList_some, Option.toList_none, List.cons_append, List.nil_append, List.length_cons, List.length_nil, List.getD_cons_succ, List.getD_cons_zero, List.set_cons_succ, List.set_cons_zero, Nat.reduceAdd, Nat.reduceLT, Nat.reduceLeDiff, Nat.zero_le, Nat.zero_add, Nat.add_zero]
    have hu1 := mono u
    have hu2 := litN_mono mono k (i + 1) (litB D (litO D R (lev D R o) τ) (arN τ) b true u).2
    unfold LB at L2
    rw [List.length_append] at L2
    refine ih (i + 1) _ h2 t2 _ (by omega) B2 C2 (by omega) (fun h3 t3 B3 C3 L3 => ?_)
    refine K h3 t3 B3 ?_ ?_
    · rw [List.append_assoc, List.append_assoc] at C3
      exact C3
    · show _ ≤ _ + 100 * min (litN (litB D (litO D R (lev D R o) τ) (arN τ) b true) k (i + 1) (litB D (litO D R (lev D R o) τ) (arN τ) b true u).2).2 D.length ∨ _ ≤ _ + 100 * min (litN (litB D (litO D R (lev D R o) τ) (arN τ) b true) k (i + 1) (litB D (litO D R (lev D R o) τ) (arN τ) b true u).2).2 D.length
      omega
theorem bi_array {o b n j p : Nat} {τ : Ty} (hB : BuildS g a ar0 cs0 D vs R o b) (ho : o ≤ 4) (E : En g R) (hn : 11 + 10 * o + 2 * b ≤ n) (hτ : okT τ) (hj : b + (j + 1) = τ.1) (hp : g[p]? = some (tyc τ)) (hs : sN ≤ p) (B : BI g a ar0 cs0 D vs h t u) (hx : ¬ (300 < t.length ∧ D.length ≤ u)) (hb : t.length + 100 * D.length + (150 + 200 * o + 50 * b) ≤ 20000 + 100 * min u D.length) (K : ∀ (h' : AH) (t' : List Int32), BI g a ar0 cs0 D vs h' t' (litB D (litO D R (lev D R o) τ) (arN τ) (b + 1) (decide (0 < j)) u).2 → Cut D (t ++ (litB D (litO D R (lev D R o) τ) (arN τ) (b + 1) (decide (0 < j)) u).1) t' (litB D (litO D R (lev D R o) τ) (arN τ) (b + 1) (decide (0 < j)) u).2 → LB D (60 + 40 * o + 10 * (b + 1)) t u t' (litB D (litO D R (lev D R o) τ) (arN τ) (b + 1) (decide (0 < j)) u).2 → Q none h') : wp n 42 0 [some (.ref 111), some (.ref p), some (.int (nI j)), some (.int (nI (4 - o))), some (.ref a), none, none] [] h Q := by
  obtain ⟨n, rfl⟩ : ∃ n', n = n' + 8 := ⟨n - 8, by omega⟩
  have hD := B.dl
  have hτ3 := hτ.1
  have b1 := E.b1 B
  have s4 : (sx 4).length = 4 := rfl
  have s5 : (sx 5).length = 4 := rfl
  have al := arN_len hτ.1
  simp only [k_42_0, k_42_0N, k_42_1, k_42_4, okG_iff b1, fld_of b1, B.od, am_cat, am_kill, Value.category, List.map_cons, List.map_nil, List.sum_cons, List.sum_nil, Option.toList_some, Option.toList_none, List.cons_append, List.nil_append, List.length_cons, List.length_nil, List.getD_cons_succ, List.getD_cons_zero, List.set_cons_succ, List.set_cons_zero, Nat.reduceAdd, Nat.reduceLT, Nat.reduceLeDiff, Nat.zero_le, Nat.zero_add, Nat.add_zero]
  refine bi_next B (fun h1 B1 => ?_)
  simp only [k_42_7, k_42_9, k_42_11, am_cat, am_kill, Value.category, List.map_cons, List.map_nil, List.sum_cons, List.sum_nil, Option.toList_some, Option.toList_none, List.cons_append, List.nil_append, List.length_cons, List.length_nil, List.getD_cons_succ, List.getD_cons_zero, List.set_cons_succ, List.set_cons_zero, Nat.reduceAdd, Nat.reduceLT, Nat.reduceLeDiff, Nat.zero_le, Nat.zero_add, Nat.add_zero]
  by_cases c : nx D u < 0
  · have e : litB D (litO D R (lev D R o) τ) (arN τ) (b + 1) (decide (0 < j)) u = (sx 4, u + 1) := by
      show (if nx D u < 0 then _ else _) = _
      rw [if_pos c]
    rw [e] at K
    rw [if_pos c]
    simp only [k_42_14, k_42_14N, k_42_16, k_42_18, B1.ov, am_cat, am_kill, Value.category, List.map_cons, List.map_nil, List.sum_cons, List.sum_nil, Option.toList_some, Option.toList_none, List.cons_append, List.nil_append, List.length_cons, List.length_nil, List.getD_cons_succ, List.getD_cons_zero, List.set_cons_succ, List.set_cons_zero, Nat.reduceAdd, Nat.reduceLT, Nat.reduceLeDiff, Nat.zero_le, Nat.zero_add, Nat.add_zero]
    refine bi_puts (i := 4) B1 E.1 (by decide) (by omega) (fun h2 B2 => ?_)
    simp only [k_42_21, am_cat, am_kill, Value.category, List.map_cons, List.map_nil, List.sum_cons, List.sum_nil, Option.toList_some, Option.toList_none, List.cons_append, List.nil_append, List.length_cons, List.length_nil, List.getD_cons_succ, List.getD_cons_zero, List.set_cons_succ, List.set_cons_zero, Nat.reduceAdd, Nat.reduceLT, Nat.reduceLeDiff, Nat.zero_le, Nat.zero_add, Nat.add_zero]
    refine K h2 _ B2 (Or.inl rfl) ?_
    unfold LB
    rw [List.length_append, s4]
    omega
  rw [if_neg c]
  obtain ⟨m, hm, em⟩ := nI_of c
  have e : litB D (litO D R (lev D R o) τ) (arN τ) (b + 1) (decide (0 < j)) u = ((if decide (0 < j) = true then [] else sx 5 ++ (arN τ ++ [32])) ++ ([123] ++ ((litN (litB D (litO D R (lev D R o) τ) (arN τ) b true) (m % 4) 0 (u + 1)).1 ++ [125])), (litN (litB D (litO D R (lev D R o) τ) (arN τ) b true) (m % 4) 0 (u + 1)).2) := by
    show (if nx D u < 0 then _ else _) = _
    rw [if_neg c, em, nI_clamp hm]
  rw [e] at K
  dsimp only at K
  rw [em]
  have fin : ∀ (h1 : AH) (hdr : List Int32) (o6 : Option Value), hdr = (if decide (0 < j) = true then [] else sx 5 ++ (arN τ ++ [32])) → hdr.length ≤ 19 → BI g a ar0 cs0 D vs h1 (t ++ hdr) (u + 1) → wp (n + 8) 42 46 [some (.ref 111), some (.ref p), some (.int (nI j)), some (.int (nI (4 - o))), some (.ref a), some (.int (nI m)), o6] [] h1 Q := by
    intro h1 hdr o6 eh hl B1
    rw [← eh] at K
    simp only [k_42_46, k_42_46N, k_42_48, k_42_50, B1.ov, am_cat, am_kill, Value.category, List.map_cons, List.map_nil, List.sum_cons, List.sum_nil, Option.toList_some, Option.toList_none, List.cons_append, List.nil_append, List.length_cons, List.length_nil, List.getD_cons_succ, List.getD_cons_zero, List.set_cons_succ, List.set_cons_zero, Nat.reduceAdd, Nat.reduceLT, Nat.reduceLeDiff, Nat.zero_le, Nat.zero_add, Nat.add_zero]
    refine bi_put B1 ⟨by decide, by decide⟩ (by rw [List.length_append]; omega) (fun h2 B2 => ?_)
    simp only [k_42_53, k_42_54, am_cat, am_kill, Value.category, List.map_cons, List.map_nil, List.sum_cons, List.sum_nil, Option.toList_some, Option.toList_none, List.cons_append, List.nil_append, List.length_cons, List.length_nil, List.getD_cons_succ, List.getD_cons_zero, List.set_cons_succ, List.set_cons_zero, Nat.reduceAdd, Nat.reduceLT, Nat.reduceLeDiff, Nat.zero_le, Nat.zero_add, Nat.add_zero]
    have hu2 := litN_mono (f := litB D (litO D R (lev D R o) τ) (arN τ) b true) (litB_mono (litO_mono (lev_mono D R o) τ) b true) (m % 4) 0 (u + 1)
    refine bi_arr_loop (m := m) hB ho (by omega) hm E hn hτ hj hp hs (m % 4) 0 (u + 1) h2 _ _ (by omega) B2 (Or.inl rfl) (by simp only [List.length_append, List.length_cons, List.length_nil]; omega) (fun h3 t3 B3 C3 L3 => ?_)
    simp only [List.length_append, List.length_cons, List.length_nil] at L3
    simp only [k_42_89, k_42_89N, k_42_91, k_42_93, B3.ov, am_cat, am_kill, Value.category, List.map_cons, List.map_nil, List.sum_cons, List.sum_nil, Option.toList_some, Option.toList_none, List.cons_append, List.nil_append, List.length_cons, List.length_nil, List.getD_cons_succ, List.getD_cons_zero, List.set_cons_succ, List.set_cons_zero, Nat.reduceAdd, Nat.reduceLT, Nat.reduceLeDiff, Nat.zero_le, Nat.zero_add, Nat.add_zero]
    refine bi_put B3 ⟨by decide, by decide⟩ (by omega) (fun h4 B4 => ?_)
    simp only [k_42_96, am_cat, am_kill, Value.category, List.map_cons, List.map_nil, List.sum_cons, List.sum_nil, Option.toList_some, Option.toList_none, List.cons_append, List.nil_append, List.length_cons, List.length_nil, List.getD_cons_succ, List.getD_cons_zero, List.set_cons_succ, List.set_cons_zero, Nat.reduceAdd, Nat.reduceLT, Nat.reduceLeDiff, Nat.zero_le, Nat.zero_add, Nat.add_zero]
    refine K h4 _ B4 ?_ ?_
    · have := C3.app (Nat.le_refl _) [125]
      simp only [List.append_assoc] at this
      exact this
    · unfold LB
      simp only [List.length_append, List.length_cons, List.length_nil]
      omega
  have e0 : (nI j = 0) ↔ j = 0 := nI_eq (b := 0) (by omega) (by omega)
  simp only [k_42_22, k_42_23, e0, am_cat, am_kill, Value.category, List.map_cons, List.map_nil, List.sum_cons, List.sum_nil, Option.toList_some, Option.toList_none, List.cons_append, List.nil_append, List.length_cons, List.length_nil, List.getD_cons_succ, List.getD_cons_zero, List.set_cons_succ, List.set_cons_zero, Nat.reduceAdd, Nat.reduceLT, Nat.reduceLeDiff, Nat.zero_le, Nat.zero_add, Nat.add_zero]
  by_cases cj : j = 0
  · rw [if_pos cj]
    have hd : decide (0 < j) = false := by simp [cj]
    simp only [k_42_26, k_42_26N, k_42_28, k_42_30, B1.ov, am_cat, am_kill, Value.category, List.map_cons, List.map_nil, List.sum_cons, List.sum_nil, Option.toList_some, Option.toList_none, List.cons_append, List.nil_append, List.length_cons, List.length_nil, List.getD_cons_succ, List.getD_cons_zero, List.set_cons_succ, List.set_cons_zero, Nat.reduceAdd, Nat.reduceLT, Nat.reduceLeDiff, Nat.zero_le, Nat.zero_add, Nat.add_zero]
    refine bi_puts (i := 5) B1 E.1 (by decide) (by omega) (fun h2 B2 => ?_)
    have hp2 := B2.st hp (by simp [tyc]) (by simp [tyc]) (by simp [tyc])
    have hp2' : h2[p]? = some (.inr 3, [.int (nI τ.1), .int τ.2.1, .int (nI τ.2.2)]) := hp2
    simp only [k_42_33, k_42_33N, k_42_34, k_42_34N, k_42_36, okV_iff hp2', am_cat, am_kill, Value.category, List.map_cons, List.map_nil, List.sum_cons, List.sum_nil, Option.toList_some, Option.toList_none, List.cons_append, List.nil_append, List.length_cons, List.length_nil, List.getD_cons_succ, List.getD_cons_zero, List.set_cons_succ, List.set_cons_zero, Nat.reduceAdd, Nat.reduceLT, Nat.reduceLeDiff, Nat.zero_le, Nat.zero_add, Nat.add_zero]
    refine bi_arN hτ hs hp B2 E.1 (by rw [List.length_append, s5]; omega) (fun h3 B3 => ?_)
    simp only [k_42_39, k_42_39N, k_42_41, k_42_43, B3.ov, am_cat, am_kill, Value.category, List.map_cons, List.map_nil, List.sum_cons, List.sum_nil, Option.toList_some, Option.toList_none, List.cons_append, List.nil_append, List.length_cons, List.length_nil, List.getD_cons_succ, List.getD_cons_zero, List.set_cons_succ, List.set_cons_zero, Nat.reduceAdd, Nat.reduceLT, Nat.reduceLeDiff, Nat.zero_le, Nat.zero_add, Nat.add_zero]
    refine bi_put B3 ⟨by decide, by decide⟩ (by simp only [List.length_append, s5]; omega) (fun h4 B4 => ?_)
    simp only [List.append_assoc] at B4
    refine fin h4 (sx 5 ++ (arN τ ++ [32])) _ ?_ ?_ B4
    · rw [hd]; rfl
    · simp only [List.length_append, s5, List.length_cons, List.length_nil]; omega
  · rw [if_neg cj]
    have hd : decide (0 < j) = true := by simp; omega
    refine fin h1 [] _ ?_ (by decide) (by rw [List.append_nil]; exact B1)
    rw [hd]; rfl
theorem bi_build1 {o : Nat} (rb : RndB) (E : En g R) (hO : ∀ o', o = o' + 1 → ∀ b, b ≤ 3 → BuildS g a ar0 cs0 D vs R o' b) (ho : o ≤ 4) : ∀ b, b ≤ 3 → BuildS g a ar0 cs0 D vs R o b := by
  intro b
  induction b with
  | zero =>
    intro hb3 n j p u τ h t x Q hτ hj hn hp hs B C hb K
    obtain ⟨n, rfl⟩ : ∃ n', n = n' + 10 := ⟨n - 10, by omega⟩
    have mono := litB_mono (D := D) (nm := arN τ) (litO_mono (D := D) (R := R) (lev_mono D R o) τ) 0 (decide (0 < j)) u
    refine bi_head (n := n + 8) B E C (fun c1 c2 => ?_) (fun e hx => ?_)
    · refine K h t (B.cap (by omega)) (Or.inr ⟨c1, ?_, by omega⟩) (Or.inl (by omega))
      rw [List.length_append]
      rcases C with rfl | ⟨_, c3, _⟩ <;> omega
    · subst e
      have hτ3 := hτ.1
      have b1 := E.b1 B
      have hp1 := B.st hp (by simp [tyc]) (by simp [tyc]) (by simp [tyc])
      have hp1' : h[p]? = some (.inr 3, [.int (nI τ.1), .int τ.2.1, .int (nI τ.2.2)]) := hp1
      have e1 : ¬ nI j < nI τ.1 := nI_nlt (by omega) (by omega)
      simp only [k_39_22, k_39_23, k_39_23N, k_39_27, k_39_24, okV_iff hp1', sp_brackets hp1, e1, if_false, am_cat, am_kill, Value.category, List.map_cons, List.map_nil, List.sum_cons, List.sum_nil, Option.toList_some, Option.toList_none, List.cons_append, List.nil_append, List.length_cons, List.length_nil, List.getD_cons_succ, List.getD_cons_zero, List.set_cons_succ, List.set_cons_zero, Nat.reduceAdd, Nat.reduceLT, Nat.reduceLeDiff, Nat.zero_le, Nat.zero_add, Nat.add_zero]
      by_cases c : τ.2.1 = 79
      · simp only [k_39_40, k_39_40N, k_39_41, okV_iff hp1', sp_letter hp1, am_cat, am_kill, Value.category, List.map_cons, List.map_nil, List.sum_cons, List.sum_nil, Option.toList_some, Option.toList_none, List.cons_append, List.nil_append, List.length_cons, List.length_nil, List.getD_cons_succ, List.getD_cons_zero, List.set_cons_succ, List.set_cons_zero, Nat.reduceAdd, Nat.reduceLT, Nat.reduceLeDiff, Nat.zero_le, Nat.zero_add, Nat.add_zero]
        rw [k_39_44, c]
        repeat (first | rw [if_pos rfl] | rw [if_neg (by decide)])
        simp only [k_39_339, k_39_339N, k_39_340, k_39_340N, k_39_344, k_39_345, k_39_345N, k_39_341, k_39_347, okV_iff hp1', okV_iff b1, sp_cnum hp1, am_cat, am_kill, Value.category, List.map_cons, List.map_nil, List.sum_cons, List.sum_nil, Option.toList_some, Option.toList_none, List.cons_append, List.nil_append, List.length_cons, List.length_nil, List.getD_cons_succ, List.getD_cons_zero, List.set_cons_succ, List.set_cons_zero, Nat.reduceAdd, Nat.reduceLT, Nat.reduceLeDiff, Nat.zero_le, Nat.zero_add, Nat.add_zero]
        refine bi_obj hO ho E (by omega) c hτ.2.1 B hx (by omega) (fun h1 t1 B1 C1 L1 => ?_)
        simp only [k_39_350, am_cat, am_kill, Value.category, List.map_cons, List.map_nil, List.sum_cons, List.sum_nil, Option.toList_some, Option.toList_none, List.cons_append, List.nil_append, List.length_cons, List.length_nil, List.getD_cons_succ, List.getD_cons_zero, List.set_cons_succ, List.set_cons_zero, Nat.reduceAdd, Nat.reduceLT, Nat.reduceLeDiff, Nat.zero_le, Nat.zero_add, Nat.add_zero]
        exact K h1 t1 B1 C1 L1
      · have eB : litB D (litO D R (lev D R o) τ) (arN τ) 0 (decide (0 < j)) u = litS D τ.2.1 u := by
          show litO D R (lev D R o) τ u = _
          unfold litO
          rw [if_neg c]
        rw [eB] at K
        have ll := litS_len D τ.2.1 u
        have lm := litS_mono D τ.2.1 u
        refine bi_leaf rb B E hp1 (hτ.2.2.elim (fun q => absurd q c) id) (by have := B.dl; omega) (fun h1 B1 => ?_)
        refine K h1 _ B1 (Or.inl rfl) ?_
        unfold LB
        rw [List.length_append]
        omega
  | succ b ih =>
    intro hb3 n j p u τ h t x Q hτ hj hn hp hs B C hb K
    obtain ⟨n, rfl⟩ : ∃ n', n = n' + 10 := ⟨n - 10, by omega⟩
    have mono := litB_mono (D := D) (nm := arN τ) (litO_mono (D := D) (R := R) (lev_mono D R o) τ) (b + 1) (decide (0 < j)) u
    refine bi_head (n := n + 8) B E C (fun c1 c2 => ?_) (fun e hx => ?_)
    · refine K h t (B.cap (by omega)) (Or.inr ⟨c1, ?_, by omega⟩) (Or.inl (by omega))
      rw [List.length_append]
      rcases C with rfl | ⟨_, c3, _⟩ <;> omega
    · subst e
      have hτ3 := hτ.1
      have b1 := E.b1 B
      have hp1 := B.st hp (by simp [tyc]) (by simp [tyc]) (by simp [tyc])
      have hp1' : h[p]? = some (.inr 3, [.int (nI τ.1), .int τ.2.1, .int (nI τ.2.2)]) := hp1
      have e1 : nI j < nI τ.1 := nI_lt (by omega) (by omega)
      simp only [k_39_22, k_39_23, k_39_23N, k_39_27, k_39_30, k_39_30N, k_39_31, k_39_31N, k_39_32, k_39_33, k_39_34, k_39_34N, k_39_24, k_39_36, okV_iff hp1', okV_iff b1, sp_brackets hp1, e1, if_true, am_cat, am_kill, Value.category, List.map_cons, List.map_nil, List.sum_cons, List.sum_nil, Option.toList_some, Option.toList_none, List.cons_append, List.nil_append, List.length_cons, List.length_nil, List.getD_cons_succ, List.getD_cons_zero, List.set_cons_succ, List.set_cons_zero, Nat.reduceAdd, Nat.reduceLT, Nat.reduceLeDiff, Nat.zero_le, Nat.zero_add, Nat.add_zero]
      refine bi_array (ih (by omega)) ho E (by omega) hτ (by omega) hp hs B hx (by omega) (fun h1 t1 B1 C1 L1 => ?_)
      simp only [k_39_39, am_cat, am_kill, Value.category, List.map_cons, List.map_nil, List.sum_cons, List.sum_nil, Option.toList_some, Option.toList_none, List.cons_append, List.nil_append, List.length_cons, List.length_nil, List.getD_cons_succ, List.getD_cons_zero, List.set_cons_succ, List.set_cons_zero, Nat.reduceAdd, Nat.reduceLT, Nat.reduceLeDiff, Nat.zero_le, Nat.zero_add, Nat.add_zero]
      exact K h1 t1 B1 C1 L1
theorem bi_build (rb : RndB) (E : En g R) : ∀ o, o ≤ 4 → ∀ b, b ≤ 3 → BuildS g a ar0 cs0 D vs R o b := by
  intro o
  induction o with
  | zero => exact fun ho => bi_build1 rb E (fun o' e => by cases e) ho
  | succ o ih => exact fun ho => bi_build1 rb E (fun o' e => by cases e; exact ih (by omega)) ho
end COMP
