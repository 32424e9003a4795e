/-! WHAT A RUN IS, and what each call answers -/
abbrev St : Type := Nat × List Int32 × List (List Ty) × Ty × List Int32 × List Tst1 × Int32 × List (List Int32) × Nat
def lnz : List Int32 → List Int32 → List (List Int32)
  | _, [] => []
  | acc, c :: r => if c = 10 then acc :: lnz [] r else lnz (acc ++ [c]) r
def cntB : List Tst1 → Nat
  | [] => 0
  | b :: r => (if b.2 = true then 1 else 0) + cntB r
def oType (x : Int32) : St → St × Int32
  | (W, L, R, τ, D, T, tk, Ls, br) => if x < 0 ∨ 127 < x then ((W, L, R, τ, D, T, tk, Ls, br), -1) else if L.length = 40 then ((W, L, R, τ, D, T, tk, Ls, br), -2) else ((W, L ++ [x], R, τ, D, T, tk, Ls, br), nI (L.length + 1))
def oRow (k : Nat) : St → St × Int32
  | (W, L, R, τ, D, T, tk, Ls, br) => match rdRow 4 L with
    | none => ((W, [], R, τ, D, T, tk, Ls, br), -3)
    | some l => ((W, [], R.set k l, τ, D, T, tk, Ls, br), nI l.length)
def oFields (x : Int32) (s : St) : St × Int32 := if x < 0 ∨ 3 < x then (s, -1) else oRow x.toNatClampNeg s
def oRes : St → St × Int32
  | (W, L, R, τ, D, T, tk, Ls, br) => match rdRes L with
    | none => ((W, [], R, τ, D, T, tk, Ls, br), -3)
    | some σ => ((W, [], R, σ, D, T, tk, Ls, br), 0)
def oData (x : Int32) : St → St × Int32
  | (W, L, R, τ, D, T, tk, Ls, br) => if D.length = 60 then ((W, L, R, τ, D, T, tk, Ls, br), -2) else ((W, L, R, τ, D ++ [x], T, tk, Ls, br), nI (D.length + 1))
def oClear : St → St × Int32
  | (W, L, R, τ, D, T, tk, Ls, br) => ((W, L, R, τ, [], T, tk, Ls, br), nI D.length)
def oKeep (y : List Int32) (th : Bool) : St → St × Int32
  | (W, L, R, τ, D, T, tk, Ls, br) => if 300 < y.length then ((W, L, R, τ, D, T, tk, Ls, br), -5) else if T.any (fun b => decide (b.1 = y)) = true then ((W, L, R, τ, D, T, tk, Ls, br), -4) else ((W, L, R, τ, D, T ++ [(y, th)], tk, Ls, br), nI T.length)
def oRet : St → St × Int32
  | (W, L, R, τ, D, T, tk, Ls, br) => if T.length = 20 then ((W, L, R, τ, D, T, tk, Ls, br), -2) else oKeep (asT τ (outT D R τ (callT D R (R.getD 4 [])).2).1 (callT D R (R.getD 4 [])).1) false (W, L, R, τ, D, T, nI (min (outT D R τ (callT D R (R.getD 4 [])).2).2 D.length), Ls, br)
def oThr : St → St × Int32
  | (W, L, R, τ, D, T, tk, Ls, br) => if L.all isLet = true ∧ 0 < L.length then (if T.length = 20 then ((W, [], R, τ, D, T, tk, Ls, br), -2) else oKeep (ctT L (callT D R (R.getD 4 [])).1) true (W, [], R, τ, D, T, nI (min (callT D R (R.getD 4 [])).2 D.length), Ls, br)) else ((W, [], R, τ, D, T, tk, Ls, br), -3)
def oTaken : St → St × Int32
  | (W, L, R, τ, D, T, tk, Ls, br) => ((W, L, R, τ, D, T, tk, Ls, br), tk)
def oDrop : St → St × Int32
  | (W, L, R, τ, D, T, tk, Ls, br) => ((W, L, R, τ, D, [], tk, Ls, br), nI T.length)
def tls (T : List Tst1) : List (List (List Int32)) := T.map (fun b => lnz [] b.1)
def oEmit : St → St × Int32
  | (W, L, R, τ, D, T, tk, _, _) => ((W, L, R, τ, D, T, tk, emL W (tls T), emB W (tls T)), nI (tx (emL W (tls T))).length)
def oAt (x : Int32) : St → St × Int32
  | (W, L, R, τ, D, T, tk, Ls, br) => ((W, L, R, τ, D, T, tk, Ls, br), if x < 0 then -1 else (tx Ls).getD x.toNatClampNeg (-1))
def oLine (x : Int32) : St → St × Int32
  | (W, L, R, τ, D, T, tk, Ls, br) => ((W, L, R, τ, D, T, tk, Ls, br), if x < 0 then -1 else if x.toNatClampNeg < Ls.length then nI (tx (Ls.take x.toNatClampNeg)).length else -1)
def oCount (x : Int32) : St → St × Int32
  | (W, L, R, τ, D, T, tk, Ls, br) => ((W, L, R, τ, D, T, tk, Ls, br), if x = 0 then nI T.length else if x = 1 then nI L.length else if x = 2 then nI D.length else if x = 3 then nI (tx Ls).length else if x = 4 then nI Ls.length else if x = 5 then nI (mxl Ls) else if x = 6 then nI br else if x = 7 then nI (cntB T) else -1)
def okB (W : Nat) (y : List Int32) : Prop := (∃ x, y = x ++ [10]) ∧ y.length ≤ 300 ∧ (∀ c ∈ y, asc c) ∧ (∀ l ∈ lnz [] y, okL l) ∧ (tx (bodyE W (lnz [] y))).length ≤ 794
/-- what holds of every run -/
def SI : St → Prop
  | (W, L, R, τ, D, T, tk, Ls, _) => (40 ≤ W ∧ W ≤ 120) ∧ (L.length ≤ 40 ∧ ∀ c ∈ L, asc c) ∧ (R.length = 5 ∧ ∀ k, k < 5 → (R.getD k []).length ≤ 4 ∧ ∀ σ ∈ R.getD k [], okT σ) ∧ (okT τ ∨ τ = (0, 86, 0)) ∧ D.length ≤ 60 ∧ (T.length ≤ 20 ∧ ∀ b ∈ T, okB W b.1) ∧ (tk = -1 ∨ ¬ tk < 0) ∧ (tx Ls).length ≤ 16800 ∧ (∀ l ∈ Ls, ∀ c ∈ l, asc c ∧ c ≠ 10)
def ResA (A : Nat → Nat → Int32) (τ : Ty) : Prop := (okT τ ∧ At A 200 τ.1 τ.2.1 τ.2.2) ∨ (τ = (0, 86, 0) ∧ A 1 200 = 86)
def Txt (A : Nat → Nat → Int32) (Ls : List (List Int32)) : Prop := ∀ (j : Nat) (c : Int32), (tx Ls)[j]? = some c → Tx A j = c
/-- how the reference holds it -/
def MI : St → (Nat → Int32) → (Nat → Nat → Int32) → Prop
  | (W, L, R, τ, D, T, tk, Ls, br), n, A => n 0 = nI W ∧ Ln n A L ∧ Mst n A D ∧ (∀ r, r < 5 → Mrw A R r) ∧ ResA A τ ∧ n 3 = nI T.length ∧ Tsts A T ∧ n 5 = tk ∧ n 6 = nI (tx Ls).length ∧ n 7 = nI Ls.length ∧ n 8 = nI (mxl Ls) ∧ n 9 = nI br ∧ Txt A Ls ∧ n 23 = 0
section CG
variable {n n' : Nat → Int32} {A A' : Nat → Nat → Int32}
theorem Ln.cg {L : List Int32} (h : Ln n A L) (h1 : n' 1 = n 1) (h2 : A' 0 = A 0) : Ln n' A' L := by
  obtain ⟨q1, q2, q3, q4⟩ := h
  exact ⟨by rw [h1]; exact q1, q2, by rw [h2]; exact q3, q4⟩
theorem Mst.cg {D : List Int32} (h : Mst n A D) (h1 : n' 2 = n 2) (h2 : A' 3 = A 3) : Mst n' A' D := by
  obtain ⟨q1, q2, q3⟩ := h
  exact ⟨by rw [h1]; exact q1, q2, by rw [h2]; exact q3⟩
theorem At.cg {p b q : Nat} {c : Int32} (h : At A p b c q) (h1 : ∀ j, p ≤ j → j ≤ p + b + 1 → A' 1 j = A 1 j) : At A' p b c q := by
  obtain ⟨q1, q2, q3, q4⟩ := h
  exact ⟨fun i hi => by rw [h1 _ (by omega) (by omega)]; exact q1 i hi, by rw [h1 _ (by omega) (by omega)]; exact q2, fun z => by rw [h1 _ (by omega) (by omega)]; exact q3 z, q4⟩
theorem RowAt.cg {l : List Ty} : ∀ {p : Nat}, RowAt A p l → (∀ j, p ≤ j → j < p + tot l → A' 1 j = A 1 j) → RowAt A' p l := by
  induction l with
  | nil => intro p _ _; exact trivial
  | cons τ l ih =>
    intro p h h1
    obtain ⟨q1, q2⟩ := h
    have ht : tot (τ :: l) = spl τ + tot l := rfl
    refine ⟨?_, ih q2 (fun j j1 j2 => h1 j (by omega) (by omega))⟩
    obtain ⟨a1, a2, a3, a4⟩ := q1
    have hs : spl τ = τ.1 + (if τ.2.1 = 79 then 2 else 1) := rfl
    refine ⟨fun i hi => ?_, ?_, fun z => ?_, a4⟩
    · rw [h1 _ (by omega) (by split at hs <;> omega)]
      exact a1 i hi
    · rw [h1 _ (by omega) (by split at hs <;> omega)]
      exact a2
    · rw [if_pos z] at hs
      rw [h1 _ (by omega) (by omega)]
      exact a3 z
theorem Mrw.cg {R : List (List Ty)} {r : Nat} (h : Mrw A R r) (h1 : ∀ j, r * 40 ≤ j → j < r * 40 + 40 → A' 1 j = A 1 j) (h2 : A' 2 r = A 2 r) : Mrw A' R r := by
  obtain ⟨q1, q2, q3, q4, q5⟩ := h
  exact ⟨by rw [h2]; exact q1, RowAt.cg q2 (fun j j1 j2 => h1 j j1 (by omega)), q3, q4, q5⟩
theorem ResA.cg {τ : Ty} (h : ResA A τ) (h1 : ∀ j, 200 ≤ j → A' 1 j = A 1 j) : ResA A' τ := by
  rcases h with ⟨q1, q2⟩ | ⟨q1, q2⟩
  · exact Or.inl ⟨q1, At.cg q2 (fun j j1 _ => h1 j j1)⟩
  · exact Or.inr ⟨q1, by rw [h1 _ (Nat.le_refl _)]; exact q2⟩
theorem Tsts.cg {T : List Tst1} (h : Tsts A T) (h1 : A' 4 = A 4) (h2 : A' 6 = A 6) (h3 : A' 7 = A 7) : Tsts A' T := by
  intro i b hb
  rw [h1, h2, h3]
  exact h i b hb
theorem Txt.cg {Ls : List (List Int32)} (h : Txt A Ls) (h1 : A' 5 = A 5) : Txt A' Ls := by
  intro j c hj
  unfold Tx
  rw [h1]
  exact h j c hj
end CG
/-! reading, as the cells hold the text -/
theorem lbr_at : ∀ (L : List Int32) (i : Nat), i < lbr L → L[i]? = some 91 := by
  intro L
  induction L with
  | nil => intro i hi; exact absurd hi (Nat.not_lt_zero _)
  | cons c r ih =>
    intro i hi
    unfold lbr at hi
    split at hi
    · rename_i hc
      cases i with
      | zero => rw [List.getElem?_cons_zero, hc]
      | succ i => rw [List.getElem?_cons_succ]; exact ih i (by omega)
    · exact absurd hi (Nat.not_lt_zero _)
theorem rdTy_at {A : Nat → Nat → Int32} {L : List Int32} {q : Ty × Nat} {p : Nat} (h : rdTy L = some q) (hA : ∀ (j : Nat) (c : Int32), L[j]? = some c → A 1 (p + j) = c) (hp : p ≤ 200) : okT q.1 ∧ At A p q.1.1 q.1.2.1 q.1.2.2 := by
  unfold rdTy at h
  split at h
  · cases h
  · rename_i h3
    have hb : ∀ i, i < lbr L → A 1 (p + i) = 91 := fun i hi => hA i 91 (lbr_at L i hi)
    split at h
    · cases h
    · rename_i c r hd
      have hc : L[lbr L]? = some c := by rw [← List.head?_drop, hd]; rfl
      split at h
      · rename_i h79
        split at h
        · cases h
        · rename_i k r2
          have hk : L[lbr L + 1]? = some k := by
            rw [← List.getElem?_drop, hd]
            rfl
          split at h
          · rename_i hkk
            obtain ⟨m, hm, em⟩ := nI_of hkk.1
            have hm4 : m < 4 := by
              have := hkk.2
              rw [em] at this
              exact (nI_ltI (b := 4) hm (by omega)).mp this
            have ek : k = nI (48 + m) := by
              have : k = (k - 48) + 48 := by rw [Int32.sub_add_cancel]
              rw [this, em, show (48 : Int32) = nI 48 from rfl, nI_add]
              congr 1
              omega
            cases h
            rw [em, nI_clamp hm]
            refine ⟨⟨by show lbr L ≤ 3; omega, hm4, Or.inl rfl⟩, hb, by rw [hA _ _ hc, h79], fun _ => by rw [show p + lbr L + 1 = p + (lbr L + 1) by omega, hA _ _ hk, ek], by show p + lbr L + 1 < 240; omega⟩
          · cases h
      · split at h
        · rename_i hs
          cases h
          rename_i h79
          exact ⟨⟨by show lbr L ≤ 3; omega, by show 0 < 4; decide, Or.inr hs⟩, hb, hA _ _ hc, fun z => absurd z h79, by show p + lbr L + 1 < 240; omega⟩
        · cases h
theorem rdRow_at {A : Nat → Nat → Int32} : ∀ (k : Nat) (L : List Int32) (l : List Ty) (p : Nat), rdRow k L = some l → (∀ (j : Nat) (c : Int32), L[j]? = some c → A 1 (p + j) = c) → p + L.length ≤ 200 → RowAt A p l ∧ tot l = L.length ∧ (∀ τ ∈ l, okT τ) ∧ l.length ≤ k := by
  intro k
  induction k with
  | zero =>
    intro L l p h hA hp
    have h : (if L = [] then some [] else none) = some l := h
    split at h
    · rename_i hL
      cases h
      subst hL
      exact ⟨trivial, rfl, fun _ z => absurd z List.not_mem_nil, Nat.le_refl _⟩
    · cases h
  | succ k ih =>
    intro L l p h hA hp
    have h : (if L = [] then some [] else match rdTy L with
      | none => none
      | some q => match rdRow k (L.drop q.2) with
        | none => none
        | some r => some (q.1 :: r)) = some l := h
    split at h
    · rename_i hL
      cases h
      subst hL
      exact ⟨trivial, rfl, fun _ z => absurd z List.not_mem_nil, Nat.zero_le _⟩
    · split at h
      · cases h
      · rename_i q hq
        split at h
        · cases h
        · rename_i r hr
          cases h
          obtain ⟨s1, s2, s3, s4⟩ := rdTy_spl hq
          obtain ⟨a1, a2⟩ := rdTy_at (p := p) hq hA (by omega)
          obtain ⟨b1, b2, b3, b4⟩ := ih _ _ (p + q.2) hr (fun j c hj => by rw [Nat.add_assoc]; exact hA _ _ (by rw [List.getElem?_drop] at hj; exact hj)) (by rw [List.length_drop]; omega)
          refine ⟨⟨a2, by rw [← s1]; exact b1⟩, ?_, fun τ hτ => ?_, by rw [List.length_cons]; omega⟩
          · show spl q.1 + tot r = L.length
            rw [b2, ← s1, List.length_drop]
            omega
          · rcases List.mem_cons.mp hτ with rfl | z
            · exact a1
            · exact b3 τ z
theorem set_row {R : List (List Ty)} {r k : Nat} {l : List Ty} (hr : r < R.length) : (R.set r l).getD k [] = if k = r then l else R.getD k [] := by
  rw [List.getD_eq_getElem?_getD, List.getElem?_set]
  by_cases h : r = k
  · subst h
    rw [if_pos rfl, if_pos hr, if_pos rfl]
    rfl
  · rw [if_neg h, if_neg (fun z => h z.symm), List.getD_eq_getElem?_getD]
