/-! HOW LONG VALUES CAN GET -/
def aA : Nat → Nat
  | 0 => 60
  | o + 1 => 4 * (aA o + 182) + 8
theorem aA_ge (o : Nat) : 60 ≤ aA o := by
  cases o with
  | zero => exact Nat.le_refl _
  | succ o => show 60 ≤ 4 * (aA o + 182) + 8; omega
theorem litN_len {L B : Nat} {f : Nat → List Int32 × Nat} (hf : ∀ u, (f u).1.length ≤ B * (1 + 3 * (min (f u).2 L - min u L))) (hm : ∀ u, u ≤ (f u).2) : ∀ n i u, (litN f n i u).1.length ≤ (B + 2) * (n + 3 * (min (litN f n i u).2 L - min u L)) := by
  intro n
  induction n with
  | zero => intro i u; exact Nat.zero_le _
  | succ n ih =>
    intro i u
    show (sep i ++ ((f u).1 ++ (litN f n (i + 1) (f u).2).1)).length ≤ (B + 2) * (n + 1 + 3 * (min (litN f n (i + 1) (f u).2).2 L - min u L))
    have h1 := hf u
    have h2 := ih (i + 1) (f u).2
    have h3 := hm u
    have h4 := litN_mono hm n (i + 1) (f u).2
    have h5 := sep_len i
    generalize (litN f n (i + 1) (f u).2).2 = u2 at h2 h4 ⊢
    generalize (litN f n (i + 1) (f u).2).1 = l2 at h2 ⊢
    generalize (f u).2 = u1 at h1 h2 h3 h4
    rw [List.length_append, List.length_append]
    have e1 : (B + 2) * (1 + 3 * (min u1 L - min u L)) = B * (1 + 3 * (min u1 L - min u L)) + 2 * (1 + 3 * (min u1 L - min u L)) := Nat.add_mul _ _ _
    have e2 : (B + 2) * (n + 1 + 3 * (min u2 L - min u L)) = (B + 2) * (1 + 3 * (min u1 L - min u L)) + (B + 2) * (n + 3 * (min u2 L - min u1 L)) := by
      rw [← Nat.mul_add]
      congr 1
      omega
    omega
theorem litR_len {L B : Nat} {f : Ty → Nat → List Int32 × Nat} : ∀ (l : List Ty), (∀ τ ∈ l, ∀ u, (f τ u).1.length ≤ B * (1 + 3 * (min (f τ u).2 L - min u L))) → (∀ τ u, u ≤ (f τ u).2) → ∀ i u, (litR f l i u).1.length ≤ (B + 2) * (l.length + 3 * (min (litR f l i u).2 L - min u L)) := by
  intro l
  induction l with
  | nil => intro hf hm i u; exact Nat.zero_le _
  | cons τ l ih =>
    intro hf hm i u
    show (sep i ++ ((f τ u).1 ++ (litR f l (i + 1) (f τ u).2).1)).length ≤ (B + 2) * (l.length + 1 + 3 * (min (litR f l (i + 1) (f τ u).2).2 L - min u L))
    have h1 := hf τ (List.mem_cons_self ..) u
    have h2 := ih (fun σ hσ => hf σ (List.mem_cons_of_mem _ hσ)) hm (i + 1) (f τ u).2
    have h3 := hm τ u
    have h4 := litR_mono hm l (i + 1) (f τ u).2
    have h5 := sep_len i
    generalize (litR f l (i + 1) (f τ u).2).2 = u2 at h2 h4 ⊢
    generalize (litR f l (i + 1) (f τ u).2).1 = l2 at h2 ⊢
    generalize (f τ u).2 = u1 at h1 h2 h3 h4
    rw [List.length_append, List.length_append]
    have e1 : (B + 2) * (1 + 3 * (min u1 L - min u L)) = B * (1 + 3 * (min u1 L - min u L)) + 2 * (1 + 3 * (min u1 L - min u L)) := Nat.add_mul _ _ _
    have e2 : (B + 2) * (l.length + 1 + 3 * (min u2 L - min u L)) = (B + 2) * (1 + 3 * (min u1 L - min u L)) + (B + 2) * (l.length + 3 * (min u2 L - min u1 L)) := by
      rw [← Nat.mul_add]
      congr 1
      omega
    omega
theorem nx_big {D : List Int32} {u : Nat} (h : D.length ≤ u) : nx D u = 0 := by
  unfold nx
  rw [List.getD_eq_getElem?_getD, List.getElem?_eq_none h]
  rfl
theorem litB_len {D nm : List Int32} {A : Nat} {base : Nat → List Int32 × Nat} (hA : 60 ≤ A) (hnm : nm.length ≤ 14) (hf : ∀ u, (base u).1.length ≤ A * (1 + 3 * (min (base u).2 D.length - min u D.length))) (hm : ∀ u, u ≤ (base u).2) : ∀ b ins u, (litB D base nm b ins u).1.length ≤ (A + 60 * b) * (1 + 3 * (min (litB D base nm b ins u).2 D.length - min u D.length)) := by
  intro b
  induction b with
  | zero => intro ins u; exact hf u
  | succ b ih =>
    intro ins u
    have hm2 : ∀ u, u ≤ (litB D base nm b true u).2 := litB_mono hm b true
    have s4 : (sx 4).length = 4 := rfl
    have s5 : (sx 5).length = 4 := rfl
    have e0 : litB D base nm (b + 1) ins u = if nx D u < 0 then (sx 4, u + 1) else ((if ins = true then [] else sx 5 ++ (nm ++ [32])) ++ ([123] ++ ((litN (litB D base nm b true) ((nx D u).toNatClampNeg % 4) 0 (u + 1)).1 ++ [125])), (litN (litB D base nm b true) ((nx D u).toNatClampNeg % 4) 0 (u + 1)).2) := rfl
    rw [e0]
    by_cases c : nx D u < 0
    · rw [if_pos c]
      show (sx 4).length ≤ _
      rw [s4]
      refine Nat.le_trans ?_ (Nat.le_mul_of_pos_right _ (by omega))
      omega
    · rw [if_neg c]
      dsimp only
      have hl := litN_len (L := D.length) (ih true) hm2 ((nx D u).toNatClampNeg % 4) 0 (u + 1)
      have hmo := litN_mono hm2 ((nx D u).toNatClampNeg % 4) 0 (u + 1)
      have hq : (nx D u).toNatClampNeg % 4 < 4 := Nat.mod_lt _ (by decide)
      have hh : (if ins = true then [] else sx 5 ++ (nm ++ [32])).length ≤ 19 := by
        split
        · exact Nat.zero_le _
        · rw [List.length_append, List.length_append, s5]
          show 4 + (nm.length + 1) ≤ 19
          omega
      generalize hN : (nx D u).toNatClampNeg % 4 = N at hl hmo hq ⊢
      by_cases cu : u < D.length
      · generalize (litN (litB D base nm b true) N 0 (u + 1)).2 = u2 at hl hmo ⊢
        generalize (litN (litB D base nm b true) N 0 (u + 1)).1 = l2 at hl ⊢
        rw [List.length_append, List.length_append, List.length_append]
        show _ + (1 + (l2.length + 1)) ≤ _
        have e1 : (A + 60 * (b + 1)) * (1 + 3 * (min u2 D.length - min u D.length)) = (A + 60 * b + 2) * (1 + 3 * (min u2 D.length - min u D.length)) + 58 * (1 + 3 * (min u2 D.length - min u D.length)) := by
          rw [← Nat.add_mul]
          congr 1
        have e2 : (A + 60 * b + 2) * (N + 3 * (min u2 D.length - min (u + 1) D.length)) ≤ (A + 60 * b + 2) * (1 + 3 * (min u2 D.length - min u D.length)) := Nat.mul_le_mul_left _ (by omega)
        omega
      · have hz : N = 0 := by
          rw [← hN, nx_big (by omega)]
          decide
        subst hz
        show ((if ins = true then [] else sx 5 ++ (nm ++ [32])) ++ ([123] ++ ([] ++ [125]))).length ≤ (A + 60 * (b + 1)) * (1 + 3 * (min (u + 1) D.length - min u D.length))
        refine Nat.le_trans ?_ (Nat.le_mul_of_pos_right _ (by omega))
        rw [List.length_append]
        show _ + 2 ≤ _
        omega
theorem litO_len {D : List Int32} {R : List (List Ty)} {o : Nat} {τ : Ty} (hR : ∀ q, q < 4 → (R.getD q []).length ≤ 4) (hk : τ.2.2 < 4) (hrec : ∀ o', o = o' + 1 → ∀ σ, σ ∈ R.getD τ.2.2 [] → ∀ u, (litT D R o' σ u).1.length ≤ (aA o' + 180) * (1 + 3 * (min (litT D R o' σ u).2 D.length - min u D.length))) (u : Nat) : (litO D R (lev D R o) τ u).1.length ≤ aA o * (1 + 3 * (min (litO D R (lev D R o) τ u).2 D.length - min u D.length)) := by
  have hA := aA_ge o
  have s4 : (sx 4).length = 4 := rfl
  have s28 : (sx 28).length = 5 := rfl
  unfold litO
  by_cases c : τ.2.1 = 79
  · rw [if_pos c]
    cases o with
    | zero =>
      show (sx 4).length ≤ _
      rw [s4]
      exact Nat.le_trans (by omega) (Nat.le_mul_of_pos_right _ (by omega))
    | succ o' =>
      show (if nx D u < 0 then (sx 4, u + 1) else _ : List Int32 × Nat).1.length ≤ _ * (1 + 3 * (min (if nx D u < 0 then (sx 4, u + 1) else _ : List Int32 × Nat).2 D.length - _))
      by_cases cn : nx D u < 0
      · rw [if_pos cn]
        show (sx 4).length ≤ _
        rw [s4]
        exact Nat.le_trans (by omega) (Nat.le_mul_of_pos_right _ (by omega))
      · rw [if_neg cn]
        dsimp only
        have hl := litR_len (L := D.length) (B := aA o' + 180) (R.getD τ.2.2 []) (hrec o' rfl) (litT_mono D R o') 0 (u + 1)
        have hmo := litR_mono (litT_mono D R o') (R.getD τ.2.2 []) 0 (u + 1)
        have h4 := hR _ hk
        generalize (litR (litT D R o') (R.getD τ.2.2 []) 0 (u + 1)).2 = u2 at hl hmo ⊢
        generalize (litR (litT D R o') (R.getD τ.2.2 []) 0 (u + 1)).1 = l2 at hl ⊢
        rw [List.length_append, s28, List.length_append, List.length_append, List.length_append]
        show 5 + (1 + (1 + (l2.length + 1))) ≤ (4 * (aA o' + 182) + 8) * _
        have e1 : (4 * (aA o' + 182) + 8) * (1 + 3 * (min u2 D.length - min u D.length)) = (aA o' + 182) * (4 * (1 + 3 * (min u2 D.length - min u D.length))) + 8 * (1 + 3 * (min u2 D.length - min u D.length)) := by
          rw [Nat.add_mul, Nat.mul_comm 4 (aA o' + 182), Nat.mul_assoc]
        have e2 : (aA o' + 180 + 2) * ((R.getD τ.2.2 []).length + 3 * (min u2 D.length - min (u + 1) D.length)) ≤ (aA o' + 182) * (4 * (1 + 3 * (min u2 D.length - min u D.length))) := Nat.mul_le_mul_left _ (by omega)
        omega
  · rw [if_neg c]
    have := litS_len D τ.2.1 u
    exact Nat.le_trans (by omega) (Nat.le_mul_of_pos_right _ (by omega))
theorem litT_len {D : List Int32} {R : List (List Ty)} (hR : ∀ q, q < 4 → (R.getD q []).length ≤ 4 ∧ ∀ τ ∈ R.getD q [], okT τ) : ∀ (o : Nat) (τ : Ty), okT τ → ∀ u, (litT D R o τ u).1.length ≤ (aA o + 180) * (1 + 3 * (min (litT D R o τ u).2 D.length - min u D.length)) := by
  intro o
  induction o with
  | zero =>
    intro τ hτ u
    rw [litT_eq]
    have h3 := hτ.1
    refine Nat.le_trans (litB_len (aA_ge 0) (arN_len hτ.1) (litO_len (o := 0) (fun q hq => (hR q hq).1) hτ.2.1 (fun o' e => by cases e)) (litO_mono (lev_mono D R 0) τ) τ.1 false u) (Nat.mul_le_mul_right _ (by omega))
  | succ o ih =>
    intro τ hτ u
    rw [litT_eq]
    have h3 := hτ.1
    refine Nat.le_trans (litB_len (aA_ge (o + 1)) (arN_len hτ.1) (litO_len (o := o + 1) (fun q hq => (hR q hq).1) hτ.2.1 (fun o' e => by cases e; exact fun σ hσ u => ih σ ((hR _ hτ.2.1).2 σ hσ) u)) (litO_mono (lev_mono D R (o + 1)) τ) τ.1 false u) (Nat.mul_le_mul_right _ (by omega))
theorem row_len {D : List Int32} {R : List (List Ty)} {l : List Ty} (hR : ∀ q, q < 4 → (R.getD q []).length ≤ 4 ∧ ∀ τ ∈ R.getD q [], okT τ) (hD : D.length ≤ 60) (hl : l.length ≤ 4) (hτ : ∀ τ ∈ l, okT τ) (u : Nat) : (litR (litT D R 4) l 0 u).1.length < 2 ^ 24 := by
  have h := litR_len (L := D.length) (B := aA 4 + 180) (f := litT D R 4) l (fun τ h u => litT_len hR 4 τ (hτ τ h) u) (litT_mono D R 4) 0 u
  have e : aA 4 + 180 + 2 = 78102 := rfl
  rw [e] at h
  have : 78102 * (l.length + 3 * (min (litR (litT D R 4) l 0 u).2 D.length - min u D.length)) ≤ 78102 * 184 := Nat.mul_le_mul_left _ (by omega)
  omega
theorem one_len {D : List Int32} {R : List (List Ty)} {τ : Ty} (hR : ∀ q, q < 4 → (R.getD q []).length ≤ 4 ∧ ∀ τ ∈ R.getD q [], okT τ) (hD : D.length ≤ 60) (hτ : okT τ) (u : Nat) : (litT D R 4 τ u).1.length < 2 ^ 24 := by
  have h := litT_len (D := D) hR 4 τ hτ u
  have e : aA 4 + 180 = 78100 := rfl
  rw [e] at h
  have : 78100 * (1 + 3 * (min (litT D R 4 τ u).2 D.length - min u D.length)) ≤ 78100 * 181 := Nat.mul_le_mul_left _ (by omega)
  omega
/-! each number that is taken is seen -/
theorem num_pos (n : Int) : 1 ≤ (num n).length := by
  unfold num
  rw [List.length_append, decK_len]
  omega
theorem eig_pos (n : Int) : 1 ≤ (eigL n).length := by
  obtain ⟨c, l, e, -⟩ := eig_hd n
  rw [e, List.length_cons]
  omega
theorem chE_pos (c q : Int32) : 1 ≤ (chE c q).length := by
  unfold chE
  split
  · decide
  split
  · decide
  split
  · decide
  split
  · exact (show 1 ≤ 2 by decide)
  split
  · exact (show 1 ≤ 6 by decide)
  · exact Nat.le_refl 1
theorem txE_pos (D : List Int32) : ∀ k u, k ≤ (txE D k u).length := by
  intro k
  induction k with
  | zero => intro u; exact Nat.zero_le _
  | succ k ih =>
    intro u
    show k + 1 ≤ (chE _ 34 ++ txE D k (u + 1)).length
    have := ih (u + 1)
    have := chE_pos (nx D u &&& 65535) 34
    rw [List.length_append]
    omega
theorem litS_cnt (D : List Int32) (c : Int32) (u : Nat) : (litS D c u).2 ≤ u + (litS D c u).1.length := by
  have s4 : (sx 4).length = 4 := rfl
  have s17 : (sx 17).length = 4 := rfl
  have s18 : (sx 18).length = 5 := rfl
  have s26 : (sx 26).length = 17 := rfl
  have s27 : (sx 27).length = 14 := rfl
  have b1 := num_pos (nx D u).toInt8.toInt32.toInt
  have b2 := num_pos (nx D u).toInt16.toInt32.toInt
  have b3 := num_pos (nx D u).toInt
  have b4 := num_pos (lngV (nx D u) (nx D (u + 1))).toInt
  have b5 := eig_pos (rnd (nx D u)).toInt
  have b6 := eig_pos (nx D u).toInt
  have b8 := txE_pos D ((nx D u).toNatClampNeg % 5) (u + 1)
  unfold litS
  split
  · show u + 1 ≤ u + (if _ then _ else _ : List Int32).length
    split <;> omega
  split
  · show u + 1 ≤ u + _
    rw [List.length_append]
    omega
  split
  · show u + 1 ≤ u + _
    rw [List.length_append]
    show u + 1 ≤ u + (1 + _)
    omega
  split
  · show u + 1 ≤ u + _
    rw [List.length_append]
    omega
  split
  · show u + 1 ≤ u + (intL _).length
    unfold intL
    split <;> omega
  split
  · show u + 2 ≤ u + (lngL _ _).length
    unfold lngL
    split
    · omega
    · rw [List.length_append]
      show u + 2 ≤ u + (_ + 1)
      omega
  split
  · show u + 1 ≤ u + _
    rw [List.length_append]
    omega
  split
  · show u + 1 ≤ u + (eigL (nx D u).toInt).length
    omega
  split
  · show u + 1 ≤ u + (sx 4).length
    omega
  · show u + 1 + _ ≤ u + _
    rw [List.length_append, List.length_append]
    show _ ≤ u + (1 + (_ + 1))
    omega
theorem litN_cnt {f : Nat → List Int32 × Nat} (hf : ∀ u, (f u).2 ≤ u + (f u).1.length) : ∀ n i u, (litN f n i u).2 ≤ u + (litN f n i u).1.length := by
  intro n
  induction n with
  | zero => intro i u; exact Nat.le_refl _
  | succ n ih =>
    intro i u
    show (litN f n (i + 1) (f u).2).2 ≤ u + (sep i ++ ((f u).1 ++ (litN f n (i + 1) (f u).2).1)).length
    have h1 := hf u
    have h2 := ih (i + 1) (f u).2
    rw [List.length_append, List.length_append]
    omega
theorem litR_cnt {f : Ty → Nat → List Int32 × Nat} (hf : ∀ τ u, (f τ u).2 ≤ u + (f τ u).1.length) : ∀ l i u, (litR f l i u).2 ≤ u + (litR f l i u).1.length := by
  intro l
  induction l with
  | nil => intro i u; exact Nat.le_refl _
  | cons τ l ih =>
    intro i u
    show (litR f l (i + 1) (f τ u).2).2 ≤ u + (sep i ++ ((f τ u).1 ++ (litR f l (i + 1) (f τ u).2).1)).length
    have h1 := hf τ u
    have h2 := ih (i + 1) (f τ u).2
    rw [List.length_append, List.length_append]
    omega
theorem litB_cnt {D nm : List Int32} {base : Nat → List Int32 × Nat} (hf : ∀ u, (base u).2 ≤ u + (base u).1.length) : ∀ b ins u, (litB D base nm b ins u).2 ≤ u + (litB D base nm b ins u).1.length := by
  intro b
  induction b with
  | zero => intro ins u; exact hf u
  | succ b ih =>
    intro ins u
    have e0 : litB D base nm (b + 1) ins u = if nx D u < 0 then (sx 4, u + 1) else ((if ins = true then [] else sx 5 ++ (nm ++ [32])) ++ ([123] ++ ((litN (litB D base nm b true) ((nx D u).toNatClampNeg % 4) 0 (u + 1)).1 ++ [125])), (litN (litB D base nm b true) ((nx D u).toNatClampNeg % 4) 0 (u + 1)).2) := rfl
    rw [e0]
    split
    · show u + 1 ≤ u + (sx 4).length
      rw [show (sx 4).length = 4 from rfl]
      omega
    · dsimp only
      have h := litN_cnt (ih true) ((nx D u).toNatClampNeg % 4) 0 (u + 1)
      rw [List.length_append, List.length_append, List.length_append]
      show _ ≤ u + (_ + (1 + (_ + 1)))
      omega
theorem litO_cnt {D : List Int32} {R : List (List Ty)} {rec : Option (Ty → Nat → List Int32 × Nat)} (hr : ∀ f, rec = some f → ∀ τ u, (f τ u).2 ≤ u + (f τ u).1.length) (τ : Ty) (u : Nat) : (litO D R rec τ u).2 ≤ u + (litO D R rec τ u).1.length := by
  have s4 : (sx 4).length = 4 := rfl
  unfold litO
  split
  · cases rec with
    | none =>
      show u + 1 ≤ u + (sx 4).length
      omega
    | some f =>
      dsimp only
      split
      · show u + 1 ≤ u + (sx 4).length
        omega
      · have h := litR_cnt (hr f rfl) (R.getD τ.2.2 []) 0 (u + 1)
        dsimp only
        rw [List.length_append, List.length_append, List.length_append, List.length_append]
        show _ ≤ u + (_ + (1 + (1 + (_ + 1))))
        omega
  · exact litS_cnt D τ.2.1 u
theorem litT_cnt (D : List Int32) (R : List (List Ty)) : ∀ o τ u, (litT D R o τ u).2 ≤ u + (litT D R o τ u).1.length := by
  intro o
  induction o with
  | zero => intro τ u; exact litB_cnt (litO_cnt (fun f q => by cases q) τ) _ _ _
  | succ o ih => intro τ u; exact litB_cnt (litO_cnt (fun f q => by cases q; exact ih) τ) _ _ _
