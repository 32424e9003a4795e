/-! HOW OFTEN A LINE IS BROKEN -/
theorem lc_some {ok : Nat → Bool} : ∀ (l : List Int32) (s : Nat) (q : Int32) (e : Bool) (b : Nat), b ≤ s → ∃ m, lc ok l s q e (some b) = some m ∧ b ≤ m := by
  intro l
  induction l with
  | nil => intro s q e b hb; exact ⟨b, rfl, Nat.le_refl _⟩
  | cons c r ih =>
    intro s q e b hb
    cases e with
    | true => exact ih (s + 1) q false b (by omega)
    | false =>
      show ∃ m, (if q = 0 then (if c = 34 ∨ c = 39 then lc ok r (s + 1) c false (some b) else lc ok r (s + 1) 0 false (if c = 44 ∧ r.head? = some 32 ∧ ok s = true then some s else some b)) else if c = 92 then lc ok r (s + 1) q true (some b) else lc ok r (s + 1) (if c = q then 0 else q) false (some b)) = some m ∧ b ≤ m
      split
      · split
        · exact ih _ _ _ b (by omega)
        · split
          · obtain ⟨m, h1, h2⟩ := ih (s + 1) 0 false s (by omega)
            exact ⟨m, h1, by omega⟩
          · exact ih _ _ _ b (by omega)
      · split
        · exact ih _ _ _ b (by omega)
        · exact ih _ _ _ b (by omega)
theorem lc_dom {ok ok2 : Nat → Bool} : ∀ (l : List Int32) (s : Nat) (q : Int32) (e : Bool) (b b2 : Option Nat) (m : Nat), lc ok2 l s q e b2 = some m → b2 = some m ∨ (ok m = true → ∃ m', lc ok l s q e b = some m' ∧ m ≤ m') := by
  intro l
  induction l with
  | nil => intro s q e b b2 m h; exact Or.inl h
  | cons c r ih =>
    intro s q e b b2 m h
    cases e with
    | true => exact ih (s + 1) q false b b2 m h
    | false =>
      have h : (if q = 0 then (if c = 34 ∨ c = 39 then lc ok2 r (s + 1) c false b2 else lc ok2 r (s + 1) 0 false (if c = 44 ∧ r.head? = some 32 ∧ ok2 s = true then some s else b2)) else if c = 92 then lc ok2 r (s + 1) q true b2 else lc ok2 r (s + 1) (if c = q then 0 else q) false b2) = some m := h
      show _ ∨ (ok m = true → ∃ m', (if q = 0 then (if c = 34 ∨ c = 39 then lc ok r (s + 1) c false b else lc ok r (s + 1) 0 false (if c = 44 ∧ r.head? = some 32 ∧ ok s = true then some s else b)) else if c = 92 then lc ok r (s + 1) q true b else lc ok r (s + 1) (if c = q then 0 else q) false b) = some m' ∧ m ≤ m')
      by_cases c1 : q = 0
      · rw [if_pos c1] at h ⊢
        by_cases c2 : c = 34 ∨ c = 39
        · rw [if_pos c2] at h ⊢
          exact ih _ _ _ _ _ _ h
        · rw [if_neg c2] at h ⊢
          by_cases c3 : c = 44 ∧ r.head? = some 32 ∧ ok2 s = true
          · rw [if_pos c3] at h
            rcases ih _ _ _ (if c = 44 ∧ r.head? = some 32 ∧ ok s = true then some s else b) _ _ h with z | z
            · cases z
              refine Or.inr (fun hok => ?_)
              rw [if_pos ⟨c3.1, c3.2.1, hok⟩]
              exact lc_some r (s + 1) 0 false s (by omega)
            · exact Or.inr z
          · rw [if_neg c3] at h
            exact ih _ _ _ _ _ _ h
      · rw [if_neg c1] at h ⊢
        by_cases c2 : c = 92
        · rw [if_pos c2] at h ⊢
          exact ih _ _ _ _ _ _ h
        · rw [if_neg c2] at h ⊢
          exact ih _ _ _ _ _ _ h
theorem lc_at {ok : Nat → Bool} : ∀ (l : List Int32) (s : Nat) (q : Int32) (e : Bool) (b : Option Nat) (m : Nat), lc ok l s q e b = some m → b = some m ∨ ∃ k, m = s + k ∧ lc ok (l.drop (k + 2)) (s + k + 2) 0 false (some m) = some m := by
  intro l
  induction l with
  | nil => intro s q e b m h; exact Or.inl h
  | cons c r ih =>
    intro s q e b m h
    have up : ∀ (q' : Int32) (e' : Bool), lc ok r (s + 1) q' e' b = some m → b = some m ∨ ∃ k, m = s + k ∧ lc ok ((c :: r).drop (k + 2)) (s + k + 2) 0 false (some m) = some m := by
      intro q' e' h'
      rcases ih (s + 1) q' e' b m h' with z | ⟨k, z1, z2⟩
      · exact Or.inl z
      · refine Or.inr ⟨k + 1, by omega, ?_⟩
        rw [show k + 1 + 2 = (k + 2) + 1 by omega, List.drop_succ_cons, show s + (k + 1) + 2 = s + 1 + k + 2 by omega]
        exact z2
    cases e with
    | true => exact up q false h
    | false =>
      have h : (if q = 0 then (if c = 34 ∨ c = 39 then lc ok r (s + 1) c false b else lc ok r (s + 1) 0 false (if c = 44 ∧ r.head? = some 32 ∧ ok s = true then some s else b)) else if c = 92 then lc ok r (s + 1) q true b else lc ok r (s + 1) (if c = q then 0 else q) false b) = some m := h
      split at h
      · split at h
        · exact up _ _ h
        · split at h
          · rename_i hc
            rcases ih (s + 1) 0 false (some s) m h with z | ⟨k, z1, z2⟩
            · cases z
              refine Or.inr ⟨0, rfl, ?_⟩
              cases r with
              | nil => exact absurd hc.2.1 (by simp)
              | cons x y =>
                have hx : x = 32 := by
                  have := hc.2.1
                  rw [List.head?_cons] at this
                  cases this
                  rfl
                subst hx
                have h : (if (0 : Int32) = 0 then (if (32 : Int32) = 34 ∨ (32 : Int32) = 39 then lc ok y (s + 1 + 1) 32 false (some s) else lc ok y (s + 1 + 1) 0 false (if (32 : Int32) = 44 ∧ y.head? = some 32 ∧ ok (s + 1) = true then some (s + 1) else some s)) else if (32 : Int32) = 92 then lc ok y (s + 1 + 1) 0 true (some s) else lc ok y (s + 1 + 1) (if (32 : Int32) = 0 then 0 else 0) false (some s)) = some s := h
                rw [if_pos rfl, if_neg (by decide), if_neg (fun z => absurd z.1 (by decide))] at h
                exact h
            · refine Or.inr ⟨k + 1, by omega, ?_⟩
              rw [show k + 1 + 2 = (k + 2) + 1 by omega, List.drop_succ_cons, show s + (k + 1) + 2 = s + 1 + k + 2 by omega]
              exact z2
          · exact up _ _ h
      · split at h
        · exact up _ _ h
        · exact up _ _ h
theorem lc_two {W bl bl2 i j : Nat} {r : List Int32} (h1 : lc (okc W bl) r 0 0 false none = some i) (h2 : lc (okc W bl2) (r.drop (i + 2)) 0 0 false none = some j) : W ≤ bl + (i + 2 + j) := by
  rcases lc_at r 0 0 false none i h1 with z | ⟨k, z1, z2⟩
  · cases z
  · obtain rfl : i = k := by omega
    rw [Nat.zero_add] at z2
    have h3 := lc_shift (ok := okc W bl2) (ok2 := fun x => okc W bl2 (x - (i + 2))) (k := i + 2) (fun x => by rw [Nat.add_sub_cancel]) (r.drop (i + 2)) 0 0 false none
    rw [h2, Nat.zero_add] at h3
    rcases lc_dom (ok := okc W bl) (r.drop (i + 2)) (i + 2) 0 false (some i) none (j + (i + 2)) h3 with z | z
    · cases z
    · by_cases c : okc W bl (j + (i + 2)) = true
      · obtain ⟨m', z3, z4⟩ := z c
        rw [z2] at z3
        cases z3
        omega
      · unfold okc at c
        simp only [Bool.and_eq_true, decide_eq_true_eq] at c
        omega
def bks (W ind f bl : Nat) (r : List Int32) : Nat := (brk W ind f bl r).length - 1
theorem brk_c {W ind f bl i : Nat} {r : List Int32} (h1 : W < bl + r.length) (h2 : lc (okc W bl) r 0 0 false none = some i) : brk W ind (f + 1) bl r = (rp bl ++ r.take (i + 1)) :: brk W ind f (ind + 8) (r.drop (i + 2)) := by
  show (if W < bl + r.length then (match lc (okc W bl) r 0 0 false none with
    | none => [rp bl ++ r]
    | some i => (rp bl ++ r.take (i + 1)) :: brk W ind f (ind + 8) (r.drop (i + 2))) else [rp bl ++ r]) = _
  rw [if_pos h1, h2]
theorem brk_b {W ind f bl : Nat} {r : List Int32} (h2 : ¬ W < bl + r.length ∨ lc (okc W bl) r 0 0 false none = none) : brk W ind (f + 1) bl r = [rp bl ++ r] := by
  show (if W < bl + r.length then (match lc (okc W bl) r 0 0 false none with
    | none => [rp bl ++ r]
    | some i => (rp bl ++ r.take (i + 1)) :: brk W ind f (ind + 8) (r.drop (i + 2))) else [rp bl ++ r]) = _
  rcases h2 with h | h
  · rw [if_neg h]
  · rw [h]
    split <;> rfl
theorem bks_c {W ind f bl i : Nat} {r : List Int32} (h1 : W < bl + r.length) (h2 : lc (okc W bl) r 0 0 false none = some i) : bks W ind (f + 1) bl r = bks W ind f (ind + 8) (r.drop (i + 2)) + 1 := by
  unfold bks
  rw [brk_c h1 h2, List.length_cons]
  have := brk_ne W ind f (ind + 8) (r.drop (i + 2))
  omega
theorem bks_b {W ind f bl : Nat} {r : List Int32} (h2 : ¬ W < bl + r.length ∨ lc (okc W bl) r 0 0 false none = none) : bks W ind (f + 1) bl r = 0 := by
  unfold bks
  rw [brk_b h2]
  rfl
theorem lc_rng {W bl i : Nat} {r : List Int32} (h : lc (okc W bl) r 0 0 false none = some i) : 0 < i ∧ i + 2 ≤ r.length := by
  rcases lc_spec r 0 0 false none i h with z | ⟨z1, z2, z3, z4, z5⟩
  · cases z
  · unfold okc at z3
    simp only [Bool.and_eq_true, decide_eq_true_eq] at z3
    omega
theorem bks_le {W ind : Nat} (hW : 40 ≤ W) (hi : ind ≤ 12) : ∀ (g f : Nat) (r : List Int32), f ≤ g → bks W ind f (ind + 8) r = 0 ∨ 11 * bks W ind f (ind + 8) r + 2 ≤ r.length := by
  intro g
  induction g with
  | zero =>
    intro f r hf
    obtain rfl : f = 0 := by omega
    exact Or.inl rfl
  | succ g ih =>
    intro f r hf
    cases f with
    | zero => exact Or.inl rfl
    | succ f =>
      by_cases c1 : W < ind + 8 + r.length
      · cases h1 : lc (okc W (ind + 8)) r 0 0 false none with
        | none => exact Or.inl (bks_b (Or.inr h1))
        | some i =>
          obtain ⟨i1, i2⟩ := lc_rng h1
          rw [bks_c c1 h1]
          have hd := List.length_drop (i := i + 2) (l := r)
          cases f with
          | zero =>
            have : bks W ind 0 (ind + 8) (r.drop (i + 2)) = 0 := rfl
            omega
          | succ f =>
            by_cases c2 : W < ind + 8 + (r.drop (i + 2)).length
            · cases h2 : lc (okc W (ind + 8)) (r.drop (i + 2)) 0 0 false none with
              | none =>
                have := bks_b (ind := ind) (f := f) (Or.inr h2)
                omega
              | some j =>
                obtain ⟨j1, j2⟩ := lc_rng h2
                have h3 := lc_two h1 h2
                rw [bks_c c2 h2]
                have h4 := ih f ((r.drop (i + 2)).drop (j + 2)) (by omega)
                have hd2 := List.length_drop (i := j + 2) (l := r.drop (i + 2))
                omega
            · have := bks_b (ind := ind) (f := f) (Or.inl c2)
              omega
      · exact Or.inl (bks_b (Or.inl c1))
/-- a line's first window is wider -/
theorem bks_top {W ind : Nat} (hW : 40 ≤ W) (hi : ind ≤ 12) (f : Nat) (r : List Int32) : bks W ind f ind r ≤ 2 ∨ 11 * bks W ind f ind r + 10 ≤ r.length := by
  cases f with
  | zero => exact Or.inl (Nat.zero_le _)
  | succ f =>
    by_cases c1 : W < ind + r.length
    · cases h1 : lc (okc W ind) r 0 0 false none with
      | none => rw [bks_b (Or.inr h1)]; exact Or.inl (Nat.zero_le _)
      | some i =>
        obtain ⟨i1, i2⟩ := lc_rng h1
        rw [bks_c c1 h1]
        have hd := List.length_drop (i := i + 2) (l := r)
        cases f with
        | zero =>
          have : bks W ind 0 (ind + 8) (r.drop (i + 2)) = 0 := rfl
          omega
        | succ f =>
          by_cases c2 : W < ind + 8 + (r.drop (i + 2)).length
          · cases h2 : lc (okc W (ind + 8)) (r.drop (i + 2)) 0 0 false none with
            | none =>
              have := bks_b (ind := ind) (f := f) (Or.inr h2)
              omega
            | some j =>
              obtain ⟨j1, j2⟩ := lc_rng h2
              have h3 := lc_two h1 h2
              rw [bks_c c2 h2]
              have h4 := bks_le hW hi f f ((r.drop (i + 2)).drop (j + 2)) (Nat.le_refl _)
              have hd2 := List.length_drop (i := j + 2) (l := r.drop (i + 2))
              omega
          · have := bks_b (ind := ind) (f := f) (Or.inl c2)
            omega
    · rw [bks_b (Or.inl c1)]; exact Or.inl (Nat.zero_le _)
theorem brk_tx (W ind : Nat) : ∀ (f bl : Nat) (r : List Int32), (tx (brk W ind f bl r)).length = bl + r.length + 1 + bks W ind f bl r * (ind + 8) := by
  intro f
  have one : ∀ (bl : Nat) (r : List Int32), (tx [rp bl ++ r]).length = bl + r.length + 1 := fun bl r => by rw [tx_one, List.length_append, rp_len]
  induction f with
  | zero =>
    intro bl r
    have : bks W ind 0 bl r = 0 := rfl
    rw [this, Nat.zero_mul]
    exact one bl r
  | succ f ih =>
    intro bl r
    have no : (¬ W < bl + r.length ∨ lc (okc W bl) r 0 0 false none = none) → (tx (brk W ind (f + 1) bl r)).length = bl + r.length + 1 + bks W ind (f + 1) bl r * (ind + 8) := by
      intro h
      rw [brk_b h, bks_b h, one, Nat.zero_mul]
    by_cases c1 : W < bl + r.length
    · cases h1 : lc (okc W bl) r 0 0 false none with
      | none => exact no (Or.inr h1)
      | some i =>
        obtain ⟨i1, i2⟩ := lc_rng h1
        have e : tx ((rp bl ++ r.take (i + 1)) :: brk W ind f (ind + 8) (r.drop (i + 2))) = (rp bl ++ r.take (i + 1) ++ [10]) ++ tx (brk W ind f (ind + 8) (r.drop (i + 2))) := rfl
        rw [brk_c c1 h1, bks_c c1 h1, e, List.length_append, ih, List.length_append, List.length_append, rp_len, List.length_take, List.length_drop, Nat.min_eq_left (by omega), Nat.add_mul]
        show bl + (i + 1) + 1 + _ = _
        omega
    · exact no (Or.inl c1)
theorem bkL_tx (W : Nat) (l : List Int32) : (tx (bkL W l)).length = 9 + l.length + bks W (8 + lb l) 100 (8 + lb l) (l.drop (lb l)) * (16 + lb l) := by
  unfold bkL
  rw [brk_tx]
  have hs := congrArg List.length (lb_split l)
  rw [List.length_append, rp_len] at hs
  rw [show 8 + lb l + 8 = 16 + lb l by omega]
  omega
/-- a line with no comma stays -/
theorem lc_no {ok : Nat → Bool} : ∀ (l : List Int32) (s : Nat) (q : Int32) (e : Bool), (∀ c ∈ l, c ≠ 44) → lc ok l s q e none = none := by
  intro l
  induction l with
  | nil => intro s q e _; rfl
  | cons c r ih =>
    intro s q e h
    have hr : ∀ c ∈ r, c ≠ 44 := fun x hx => h x (List.mem_cons_of_mem _ hx)
    have hc : c ≠ 44 := h c List.mem_cons_self
    cases e with
    | true => exact ih _ _ _ hr
    | false =>
      show (if q = 0 then (if c = 34 ∨ c = 39 then lc ok r (s + 1) c false none else lc ok r (s + 1) 0 false (if c = 44 ∧ r.head? = some 32 ∧ ok s = true then some s else none)) else if c = 92 then lc ok r (s + 1) q true none else lc ok r (s + 1) (if c = q then 0 else q) false none) = none
      rw [if_neg (fun z : c = 44 ∧ _ => hc z.1)]
      split
      · split
        · exact ih _ _ _ hr
        · exact ih _ _ _ hr
      · split
        · exact ih _ _ _ hr
        · exact ih _ _ _ hr
theorem bks_no (W ind f bl : Nat) {r : List Int32} (h : ∀ c ∈ r, c ≠ 44) : bks W ind f bl r = 0 := by
  cases f with
  | zero => rfl
  | succ f =>
    exact bks_b (Or.inr (lc_no r 0 0 false h))
