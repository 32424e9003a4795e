/-! EVERY LITERAL IS PRINTABLE -/
def prn (c : Int32) : Prop := 32 ≤ c.toInt ∧ c.toInt < 127
def Pr (l : List Int32) : Prop := ∀ c ∈ l, prn c
theorem Pr.nil : Pr [] := fun _ h => absurd h List.not_mem_nil
theorem Pr.app {a b : List Int32} (h1 : Pr a) (h2 : Pr b) : Pr (a ++ b) := fun c hc => (List.mem_append.mp hc).elim (h1 c) (h2 c)
theorem Pr.cons {c : Int32} {b : List Int32} (h1 : prn c) (h2 : Pr b) : Pr (c :: b) := fun x hx => (List.mem_cons.mp hx).elim (fun z => by rw [z]; exact h1) (h2 x)
theorem Pr.one {c : Int32} (h : prn c) : Pr [c] := Pr.cons h Pr.nil
theorem Pr_sx : ∀ i, i < 29 → Pr (sx i) := by unfold Pr prn sx; decide +kernel
theorem prn_asc {c : Int32} (h : prn c) : asc c := ⟨by have := h.1; omega, by have := h.2; omega⟩
theorem prn_10 {c : Int32} (h : prn c) : c ≠ 10 := fun z => by
  rw [z] at h
  exact absurd h.1 (by decide)
theorem prn_nI {m : Nat} (h1 : 32 ≤ m) (h2 : m < 127) : prn (nI m) := ⟨by rw [nI_toInt (by omega)]; omega, by rw [nI_toInt (by omega)]; omega⟩
theorem Pr_dec : ∀ k m, Pr (decK k m) := by
  intro k
  induction k with
  | zero => intro m; exact Pr.one (prn_nI (by omega) (by omega))
  | succ k ih => intro m; exact Pr.cons (prn_nI (by omega) (by omega)) (ih m)
theorem Pr_num (n : Int) : Pr (num n) := by
  refine Pr.app ?_ (Pr_dec _ _)
  split
  · exact Pr.one ⟨by decide, by decide⟩
  · exact Pr.nil
theorem prn_hxd (c s : Int32) : prn (hxd c s) := by
  unfold hxd
  obtain ⟨j, hj, e⟩ := pk_andE (c >>> (s &&& 31)) (m := 15) 4 (by decide)
  rw [e, nI_clamp (by omega)]
  have key : ∀ j, j < 16 → prn ((sx 25).getD j 0) := by unfold prn; decide +kernel
  exact key j hj
theorem Pr_chE {c q : Int32} (hq : prn q) : Pr (chE c q) := by
  unfold chE
  split
  · exact Pr_sx 22 (by decide)
  split
  · exact Pr_sx 21 (by decide)
  split
  · exact Pr_sx 23 (by decide)
  split
  · rename_i h
    refine Pr.cons ⟨by decide, by decide⟩ (Pr.one ?_)
    rcases h with h | h
    · rw [h]; exact ⟨by decide, by decide⟩
    · rw [h]; exact hq
  split
  · exact Pr.app (Pr_sx 24 (by decide)) (Pr.app (Pr.one (prn_hxd _ _)) (Pr.app (Pr.one (prn_hxd _ _)) (Pr.app (Pr.one (prn_hxd _ _)) (Pr.one (prn_hxd _ _)))))
  · rename_i h
    have h1 : ¬ c < 32 := fun z => h (Or.inl z)
    have h2 : ¬ 126 < c := fun z => h (Or.inr z)
    rw [Int32.lt_iff_toInt_lt] at h1 h2
    have h1 : ¬ c.toInt < 32 := h1
    have h2 : ¬ 126 < c.toInt := h2
    exact Pr.one ⟨by omega, by omega⟩
theorem Pr_int (n : Int32) : Pr (intL n) := by
  unfold intL
  split
  · exact Pr_sx 26 (by decide)
  · exact Pr_num _
theorem Pr_lng (a b : Int32) : Pr (lngL a b) := by
  unfold lngL
  split
  · exact Pr_sx 27 (by decide)
  · exact Pr.app (Pr_num _) (Pr.one ⟨by decide, by decide⟩)
theorem Pr_eig (n : Int) : Pr (eigL n) := by
  refine Pr.app ?_ (Pr.app (Pr_num _) (Pr.app (Pr.one ⟨by decide, by decide⟩) (Pr.app (Pr.one (prn_nI (by omega) ?_)) (Pr.app ?_ ?_))))
  · split
    · exact Pr.one ⟨by decide, by decide⟩
    · exact Pr.nil
  · omega
  · split
    · exact Pr.nil
    · exact Pr.one (prn_nI (by omega) (by omega))
  · unfold eig3
    split
    · exact Pr.nil
    · exact Pr.one (prn_nI (by omega) (by omega))
theorem Pr_tx (D : List Int32) : ∀ k u, Pr (txE D k u) := by
  intro k
  induction k with
  | zero => intro u; exact Pr.nil
  | succ k ih => intro u; exact Pr.app (Pr_chE ⟨by decide, by decide⟩) (ih _)
theorem Pr_litS (D : List Int32) (c : Int32) (u : Nat) : Pr (litS D c u).1 := by
  unfold litS
  split
  · dsimp only
    split
    · exact Pr_sx 18 (by decide)
    · exact Pr_sx 17 (by decide)
  split
  · exact Pr.app (Pr_sx 19 (by decide)) (Pr_num _)
  split
  · exact Pr.app (Pr.one ⟨by decide, by decide⟩) (Pr.app (Pr_chE ⟨by decide, by decide⟩) (Pr.one ⟨by decide, by decide⟩))
  split
  · exact Pr.app (Pr_sx 20 (by decide)) (Pr_num _)
  split
  · exact Pr_int _
  split
  · exact Pr_lng _ _
  split
  · exact Pr.app (Pr_eig _) (Pr.one ⟨by decide, by decide⟩)
  split
  · exact Pr_eig _
  split
  · exact Pr_sx 4 (by decide)
  · exact Pr.app (Pr.one ⟨by decide, by decide⟩) (Pr.app (Pr_tx _ _ _) (Pr.one ⟨by decide, by decide⟩))
theorem Pr_sep (i : Nat) : Pr (sep i) := by
  unfold sep
  split
  · exact Pr.cons ⟨by decide, by decide⟩ (Pr.one ⟨by decide, by decide⟩)
  · exact Pr.nil
theorem Pr_brs (n : Nat) : Pr (brs n) := by
  induction n with
  | zero => exact Pr.nil
  | succ n ih => exact Pr.cons ⟨by decide, by decide⟩ (Pr.cons ⟨by decide, by decide⟩ ih)
theorem Pr_el (c : Int32) : Pr (elN c) := by
  unfold elN
  repeat (split; · unfold Pr prn; decide)
  unfold Pr prn; decide
theorem Pr_arN {τ : Ty} (h : τ.2.2 < 4) : Pr (arN τ) := by
  refine Pr.app (Pr_el _) (Pr.app ?_ (Pr_brs _))
  split
  · exact Pr.one (prn_nI (by omega) (by omega))
  · exact Pr.nil
theorem Pr_litN {f : Nat → List Int32 × Nat} (hf : ∀ u, Pr (f u).1) : ∀ n i u, Pr (litN f n i u).1 := by
  intro n
  induction n with
  | zero => intro i u; exact Pr.nil
  | succ n ih => intro i u; exact Pr.app (Pr_sep _) (Pr.app (hf _) (ih _ _))
theorem Pr_litR {f : Ty → Nat → List Int32 × Nat} : ∀ (l : List Ty), (∀ τ ∈ l, ∀ u, Pr (f τ u).1) → ∀ i u, Pr (litR f l i u).1 := by
  intro l
  induction l with
  | nil => intro _ i u; exact Pr.nil
  | cons τ l ih => intro hf i u; exact Pr.app (Pr_sep _) (Pr.app (hf τ List.mem_cons_self _) (ih (fun σ hσ => hf σ (List.mem_cons_of_mem _ hσ)) _ _))
theorem Pr_litB {D nm : List Int32} {base : Nat → List Int32 × Nat} (hn : Pr nm) (hb : ∀ u, Pr (base u).1) : ∀ b ins u, Pr (litB D base nm b ins u).1 := by
  intro b
  induction b with
  | zero => intro ins u; exact hb u
  | succ b ih =>
    intro ins u
    show Pr (if nx D u < 0 then (sx 4, u + 1) else ((if ins = true then [] else sx 5 ++ (nm ++ [32])) ++ ([123] ++ ((litN (litB D base nm b true) ((nx D u).toNatClampNeg % 4) 0 (u + 1)).1 ++ [125])), (litN (litB D base nm b true) ((nx D u).toNatClampNeg % 4) 0 (u + 1)).2) : List Int32 × Nat).1
    split
    · exact Pr_sx 4 (by decide)
    · refine Pr.app ?_ (Pr.app (Pr.one ⟨by decide, by decide⟩) (Pr.app (Pr_litN (ih true) _ _ _) (Pr.one ⟨by decide, by decide⟩)))
      split
      · exact Pr.nil
      · exact Pr.app (Pr_sx 5 (by decide)) (Pr.app hn (Pr.one ⟨by decide, by decide⟩))
theorem Pr_litO {D : List Int32} {R : List (List Ty)} {rec : Option (Ty → Nat → List Int32 × Nat)} {τ : Ty} (hk : τ.2.2 < 4) (hr : ∀ f, rec = some f → ∀ σ ∈ R.getD τ.2.2 [], ∀ u, Pr (f σ u).1) (u : Nat) : Pr (litO D R rec τ u).1 := by
  unfold litO
  split
  · cases rec with
    | none => exact Pr_sx 4 (by decide)
    | some f =>
      dsimp only
      split
      · exact Pr_sx 4 (by decide)
      · exact Pr.app (Pr_sx 28 (by decide)) (Pr.app (Pr.one (prn_nI (by omega) (by omega))) (Pr.app (Pr.one ⟨by decide, by decide⟩) (Pr.app (Pr_litR _ (hr f rfl) _ _) (Pr.one ⟨by decide, by decide⟩))))
  · exact Pr_litS _ _ _
theorem Pr_litT {D : List Int32} {R : List (List Ty)} (hR : ∀ q, q < 4 → ∀ τ ∈ R.getD q [], okT τ) : ∀ (o : Nat) (τ : Ty), okT τ → ∀ u, Pr (litT D R o τ u).1 := by
  intro o
  induction o with
  | zero =>
    intro τ hτ u
    rw [litT_eq]
    exact Pr_litB (Pr_arN hτ.2.1) (Pr_litO hτ.2.1 (fun f hf => by cases hf)) _ _ _
  | succ o ih =>
    intro τ hτ u
    rw [litT_eq]
    exact Pr_litB (Pr_arN hτ.2.1) (Pr_litO hτ.2.1 (fun f hf σ hσ u => by cases hf; exact ih σ (hR _ hτ.2.1 σ hσ) u)) _ _ _
theorem Pr_call {D : List Int32} {R : List (List Ty)} {l : List Ty} (hR : ∀ q, q < 4 → ∀ τ ∈ R.getD q [], okT τ) (hl : ∀ τ ∈ l, okT τ) : Pr (callT D R l).1 := Pr.app (Pr_sx 2 (by decide)) (Pr.app (Pr_litR _ (fun τ hτ u => Pr_litT hR 4 τ (hl τ hτ) u) _ _) (Pr.one ⟨by decide, by decide⟩))
theorem Pr_out {D : List Int32} {R : List (List Ty)} {τ : Ty} (hR : ∀ q, q < 4 → ∀ τ ∈ R.getD q [], okT τ) (hτ : okT τ ∨ τ = (0, 86, 0)) (u : Nat) : Pr (outT D R τ u).1 := by
  unfold outT
  split
  · exact Pr.nil
  · rename_i h
    rcases hτ with hτ | rfl
    · exact Pr_litT hR 4 τ hτ u
    · exact absurd ⟨rfl, rfl⟩ h
