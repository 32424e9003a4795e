/-! WHAT EVERY CALL KEEPS -/
theorem rdTy_ok {L : List Int32} {q : Ty × Nat} (h : rdTy L = some q) : okT q.1 := (rdTy_at (A := fun _ j => L.getD j 0) (p := 0) h (fun j c hj => by rw [Nat.zero_add, List.getD_eq_getElem?_getD, hj]; rfl) (by omega)).1
theorem rdRow_ok {L : List Int32} {l : List Ty} (hl : L.length ≤ 40) (h : rdRow 4 L = some l) : l.length ≤ 4 ∧ ∀ τ ∈ l, okT τ := by
  obtain ⟨-, -, h1, h2⟩ := rdRow_at (A := fun _ j => L.getD j 0) 4 L l 0 h (fun j c hj => by rw [Nat.zero_add, List.getD_eq_getElem?_getD, hj]; rfl) (by omega)
  exact ⟨h2, h1⟩
theorem rdRes_ok {L : List Int32} {σ : Ty} (h : rdRes L = some σ) : okT σ ∨ σ = (0, 86, 0) := by
  unfold rdRes at h
  split at h
  · cases h; exact Or.inr rfl
  · split at h
    · cases h
    · rename_i q hq
      split at h
      · cases h; exact Or.inl (rdTy_ok hq)
      · cases h
theorem asc_nil : ([] : List Int32).length ≤ 40 ∧ ∀ c ∈ ([] : List Int32), asc c := ⟨Nat.zero_le _, fun _ h => absurd h List.not_mem_nil⟩
theorem SI_type {x : Int32} {s : St} (I : SI s) : SI (oType x s).1 := by
  obtain ⟨W, L, R, τ, D, T, tk, Ls, br⟩ := s
  obtain ⟨i1, i2, i3, i4, i5, i6, i7, i8, i9⟩ := id I
  unfold oType
  dsimp only
  split
  · exact I
  · split
    · exact I
    · rename_i h1 h2
      refine ⟨i1, ⟨?_, fun c hc => ?_⟩, i3, i4, i5, i6, i7, i8, i9⟩
      · rw [List.length_append]
        show L.length + 1 ≤ 40
        have := i2.1
        omega
      · rcases List.mem_append.mp hc with hc | hc
        · exact i2.2 c hc
        · rw [List.mem_singleton.mp hc]
          exact asc_of (fun z => h1 (Or.inl z)) (fun z => h1 (Or.inr z))
theorem SI_row {k : Nat} (hk : k < 5) {s : St} (I : SI s) : SI (oRow k s).1 := by
  obtain ⟨W, L, R, τ, D, T, tk, Ls, br⟩ := s
  obtain ⟨i1, i2, i3, i4, i5, i6, i7, i8, i9⟩ := id I
  unfold oRow
  dsimp only
  split
  · exact ⟨i1, asc_nil, i3, i4, i5, i6, i7, i8, i9⟩
  · rename_i l hl
    refine ⟨i1, asc_nil, ⟨by rw [List.length_set]; exact i3.1, fun q hq => ?_⟩, i4, i5, i6, i7, i8, i9⟩
    rw [set_row (by have := i3.1; omega)]
    split
    · exact rdRow_ok i2.1 hl
    · exact i3.2 q hq
theorem SI_fields {x : Int32} {s : St} (I : SI s) : SI (oFields x s).1 := by
  unfold oFields
  split
  · exact I
  · rename_i h
    obtain ⟨m, hm, rfl⟩ := nI_of (x := x) (fun z => h (Or.inl z))
    have h3 : ¬ 3 < m := fun z => h (Or.inr (nI_lt (a := 3) z hm))
    rw [nI_clamp hm]
    exact SI_row (by omega) I
theorem SI_res {s : St} (I : SI s) : SI (oRes s).1 := by
  obtain ⟨W, L, R, τ, D, T, tk, Ls, br⟩ := s
  obtain ⟨i1, i2, i3, i4, i5, i6, i7, i8, i9⟩ := id I
  unfold oRes
  dsimp only
  split
  · exact ⟨i1, asc_nil, i3, i4, i5, i6, i7, i8, i9⟩
  · rename_i σ hσ
    exact ⟨i1, asc_nil, i3, rdRes_ok hσ, i5, i6, i7, i8, i9⟩
theorem SI_data {x : Int32} {s : St} (I : SI s) : SI (oData x s).1 := by
  obtain ⟨W, L, R, τ, D, T, tk, Ls, br⟩ := s
  obtain ⟨i1, i2, i3, i4, i5, i6, i7, i8, i9⟩ := id I
  unfold oData
  dsimp only
  split
  · exact I
  · refine ⟨i1, i2, i3, i4, ?_, i6, i7, i8, i9⟩
    rw [List.length_append]
    show D.length + 1 ≤ 60
    omega
theorem SI_clear {s : St} (I : SI s) : SI (oClear s).1 := by
  obtain ⟨W, L, R, τ, D, T, tk, Ls, br⟩ := s
  obtain ⟨i1, i2, i3, i4, i5, i6, i7, i8, i9⟩ := id I
  exact ⟨i1, i2, i3, i4, Nat.zero_le _, i6, i7, i8, i9⟩
theorem SI_drop {s : St} (I : SI s) : SI (oDrop s).1 := by
  obtain ⟨W, L, R, τ, D, T, tk, Ls, br⟩ := s
  obtain ⟨i1, i2, i3, i4, i5, i6, i7, i8, i9⟩ := id I
  exact ⟨i1, i2, i3, i4, i5, ⟨Nat.zero_le _, fun _ h => absurd h List.not_mem_nil⟩, i7, i8, i9⟩
theorem SI_keep {y : List Int32} {th : Bool} {s : St} (I : SI s) (hT : s.2.2.2.2.2.1.length < 20) (hy : y.length ≤ 300 → okB s.1 y) : SI (oKeep y th s).1 := by
  obtain ⟨W, L, R, τ, D, T, tk, Ls, br⟩ := s
  obtain ⟨i1, i2, i3, i4, i5, i6, i7, i8, i9⟩ := id I
  unfold oKeep
  dsimp only at hT hy ⊢
  split
  · exact I
  · split
    · exact I
    · rename_i h1 h2
      refine ⟨i1, i2, i3, i4, i5, ⟨?_, fun b hb => ?_⟩, i7, i8, i9⟩
      · rw [List.length_append]
        show T.length + 1 ≤ 20
        omega
      · rcases List.mem_append.mp hb with hb | hb
        · exact i6.2 b hb
        · rw [List.mem_singleton.mp hb]
          exact hy (by omega)
theorem call84 (D : List Int32) (R : List (List Ty)) (l : List Ty) : ∃ r, (callT D R l).1 = 84 :: r := ⟨_, rfl⟩
theorem SI_ret {s : St} (I : SI s) : SI (oRet s).1 := by
  obtain ⟨W, L, R, τ, D, T, tk, Ls, br⟩ := s
  obtain ⟨i1, i2, i3, i4, i5, i6, i7, i8, i9⟩ := id I
  have hR : ∀ q, q < 4 → ∀ τ ∈ R.getD q [], okT τ := fun q hq => (i3.2 q (by omega)).2
  unfold oRet
  dsimp only
  split
  · exact I
  · rename_i h1
    refine SI_keep ⟨i1, i2, i3, i4, i5, i6, Or.inr (nI_pos (by omega)), i8, i9⟩ (by have := i6.1; show T.length < 20; omega) (fun hl => ?_)
    obtain ⟨c, r, e1, e2, e3⟩ := asT_form (τ := τ) (Pr_out (D := D) hR i4 (callT D R (R.getD 4 [])).2) (Pr_call (D := D) hR (i3.2 4 (by decide)).2) (call84 _ _ _)
    exact as_okB i1.1 e1 e2 e3 hl
theorem SI_thr {s : St} (I : SI s) : SI (oThr s).1 := by
  obtain ⟨W, L, R, τ, D, T, tk, Ls, br⟩ := s
  obtain ⟨i1, i2, i3, i4, i5, i6, i7, i8, i9⟩ := id I
  have hR : ∀ q, q < 4 → ∀ τ ∈ R.getD q [], okT τ := fun q hq => (i3.2 q (by omega)).2
  unfold oThr
  dsimp only
  split
  · rename_i h0
    split
    · exact ⟨i1, asc_nil, i3, i4, i5, i6, i7, i8, i9⟩
    · rename_i h1
      refine SI_keep ⟨i1, asc_nil, i3, i4, i5, i6, Or.inr (nI_pos (by omega)), i8, i9⟩ (by have := i6.1; show T.length < 20; omega) (fun hl => ?_)
      exact ct_okB i1.1 h0.1 h0.2 (Pr_call (D := D) hR (i3.2 4 (by decide)).2) (call84 _ _ _) hl
  · exact ⟨i1, asc_nil, i3, i4, i5, i6, i7, i8, i9⟩
theorem brk_mem (W ind : Nat) : ∀ (f bl : Nat) (r l : List Int32), l ∈ brk W ind f bl r → ∀ c ∈ l, c = 32 ∨ c ∈ r := by
  intro f
  have one : ∀ (bl : Nat) (r l : List Int32), l ∈ [rp bl ++ r] → ∀ c ∈ l, c = 32 ∨ c ∈ r := by
    intro bl r l hl c hc
    rw [List.mem_singleton.mp hl] at hc
    rcases List.mem_append.mp hc with hc | hc
    · exact Or.inl (List.eq_of_mem_replicate hc)
    · exact Or.inr hc
  induction f with
  | zero => intro bl r l hl; exact one bl r l hl
  | succ f ih =>
    intro bl r l hl c hc
    by_cases c1 : W < bl + r.length
    · cases h1 : lc (okc W bl) r 0 0 false none with
      | none => rw [brk_b (Or.inr h1)] at hl; exact one bl r l hl c hc
      | some i =>
        rw [brk_c c1 h1] at hl
        rcases List.mem_cons.mp hl with rfl | hl
        · rcases List.mem_append.mp hc with hc | hc
          · exact Or.inl (List.eq_of_mem_replicate hc)
          · exact Or.inr (List.mem_of_mem_take hc)
        · rcases ih _ _ _ hl c hc with z | z
          · exact Or.inl z
          · exact Or.inr (List.mem_of_mem_drop z)
    · rw [brk_b (Or.inl c1)] at hl
      exact one bl r l hl c hc
def okE (l : List Int32) : Prop := ∀ c ∈ l, asc c ∧ c ≠ 10
theorem Pr.okE {l : List Int32} (h : Pr l) : okE l := fun c hc => ⟨prn_asc (h c hc), prn_10 (h c hc)⟩
theorem bodyE_ok {W : Nat} {ls : List (List Int32)} (h : ∀ l ∈ ls, okL l) : ∀ l ∈ bodyE W ls, okE l := by
  intro l hl c hc
  obtain ⟨q, hq, hlq⟩ := List.mem_flatMap.mp hl
  rcases brk_mem _ _ _ _ _ _ hlq c hc with rfl | z
  · exact ⟨⟨by decide, by decide⟩, by decide⟩
  · exact (h q hq).2.2 c (List.mem_of_mem_drop z)
theorem num_two : ∀ i : Nat, i < 20 → (num (i : Int)).length ≤ 2 := by decide +kernel
theorem emT_ok {W : Nat} : ∀ (TL : List (List (List Int32))) (i : Nat), i + TL.length ≤ 20 → (∀ ls ∈ TL, (∀ l ∈ ls, okL l) ∧ (tx (bodyE W ls)).length ≤ 794) → (tx (emT W TL i)).length ≤ TL.length * 838 ∧ ∀ l ∈ emT W TL i, okE l := by
  intro TL
  induction TL with
  | nil => intro i _ _; exact ⟨Nat.zero_le _, fun _ h => absurd h List.not_mem_nil⟩
  | cons ls rest ih =>
    intro i hi h
    rw [List.length_cons] at hi
    obtain ⟨h1, h2⟩ := ih (i + 1) (by omega) (fun q hq => h q (List.mem_cons_of_mem _ hq))
    obtain ⟨h3, h4⟩ := h ls List.mem_cons_self
    have h5 := num_two i (by omega)
    have e : emT W (ls :: rest) i = (if 0 < i then [[]] else []) ++ ([sx 47] ++ ([sx 48 ++ (num (i : Int) ++ sx 49)] ++ (bodyE W ls ++ ([sx 50] ++ emT W rest (i + 1))))) := rfl
    have h6 : (tx (if 0 < i then [[]] else [])).length ≤ 1 ∧ ∀ l ∈ (if 0 < i then [([] : List Int32)] else []), okE l := by
      split
      · exact ⟨Nat.le_refl _, fun l hl => by rw [List.mem_singleton.mp hl]; exact fun _ h => absurd h List.not_mem_nil⟩
      · exact ⟨Nat.zero_le _, fun _ h => absurd h List.not_mem_nil⟩
    constructor
    · rw [e, tx_app2, tx_app2, tx_app2, tx_app2, tx_app2, List.length_append, List.length_append, List.length_append, List.length_append, List.length_append, tx_one, tx_one, tx_one, List.length_append, List.length_append, List.length_cons]
      rw [show (sx 47).length = 9 from rfl, show (sx 48).length = 20 from rfl, show (sx 49).length = 4 from rfl, show (sx 50).length = 5 from rfl]
      have := h6.1
      omega
    · intro l hl
      rw [e] at hl
      rcases List.mem_append.mp hl with hl | hl
      · exact h6.2 l hl
      rcases List.mem_append.mp hl with hl | hl
      · rw [List.mem_singleton.mp hl]
        exact (Pr_sx2 47 (by decide) (by decide) (by decide)).okE
      rcases List.mem_append.mp hl with hl | hl
      · rw [List.mem_singleton.mp hl]
        exact ((Pr_sx2 48 (by decide) (by decide) (by decide)).app ((Pr_num _).app (Pr_sx2 49 (by decide) (by decide) (by decide)))).okE
      rcases List.mem_append.mp hl with hl | hl
      · exact bodyE_ok h3 l hl
      rcases List.mem_append.mp hl with hl | hl
      · rw [List.mem_singleton.mp hl]
        exact (Pr_sx2 50 (by decide) (by decide) (by decide)).okE
      · exact h2 l hl
theorem tls_ok {W : Nat} {T : List Tst1} (h : ∀ b ∈ T, okB W b.1) : ∀ ls ∈ tls T, (∀ l ∈ ls, okL l) ∧ (tx (bodyE W ls)).length ≤ 794 := by
  intro ls hl
  obtain ⟨b, hb, rfl⟩ := List.mem_map.mp hl
  exact ⟨(h b hb).2.2.2.1, (h b hb).2.2.2.2⟩
theorem emL_ok {W : Nat} {T : List Tst1} (hT : T.length ≤ 20) (h : ∀ b ∈ T, okB W b.1) : (tx (emL W (tls T))).length ≤ 16800 ∧ ∀ l ∈ emL W (tls T), okE l := by
  have hl : (tls T).length = T.length := List.length_map _
  obtain ⟨h1, h2⟩ := emT_ok (W := W) (tls T) 0 (by omega) (tls_ok h)
  have e : emL W (tls T) = [sx 46] ++ (emT W (tls T) 0 ++ [sx 51]) := rfl
  constructor
  · rw [e, tx_app2, tx_app2, List.length_append, List.length_append, tx_one, tx_one, show (sx 46).length = 25 from rfl, show (sx 51).length = 1 from rfl]
    omega
  · intro l hl
    rw [e] at hl
    rcases List.mem_append.mp hl with hl | hl
    · rw [List.mem_singleton.mp hl]
      exact (Pr_sx2 46 (by decide) (by decide) (by decide)).okE
    rcases List.mem_append.mp hl with hl | hl
    · exact h2 l hl
    · rw [List.mem_singleton.mp hl]
      exact (Pr_sx2 51 (by decide) (by decide) (by decide)).okE
theorem SI_emit {s : St} (I : SI s) : SI (oEmit s).1 := by
  obtain ⟨W, L, R, τ, D, T, tk, Ls, br⟩ := s
  obtain ⟨i1, i2, i3, i4, i5, i6, i7, i8, i9⟩ := id I
  obtain ⟨h1, h2⟩ := emL_ok i6.1 i6.2
  exact ⟨i1, i2, i3, i4, i5, i6, i7, h1, h2⟩
/-! the reference's big calls -/
theorem jn_lnz : ∀ (x acc : List Int32), lnz acc (x ++ [10]) ≠ [] ∧ jn (lnz acc (x ++ [10])) = acc ++ x := by
  intro x
  induction x with
  | nil =>
    intro acc
    have e : lnz acc ([] ++ [10]) = [acc] := by
      show (if (10 : Int32) = 10 then acc :: lnz [] [] else lnz (acc ++ [10]) []) = _
      rw [if_pos rfl]
      rfl
    rw [e, List.append_nil]
    exact ⟨by simp, rfl⟩
  | cons c x ih =>
    intro acc
    have e : lnz acc ((c :: x) ++ [10]) = if c = 10 then acc :: lnz [] (x ++ [10]) else lnz (acc ++ [c]) (x ++ [10]) := rfl
    rw [e]
    split
    · rename_i hc
      obtain ⟨h1, h2⟩ := ih []
      refine ⟨by simp, ?_⟩
      cases hq : lnz [] (x ++ [10]) with
      | nil => exact absurd hq h1
      | cons a b =>
        rw [hq] at h2
        show acc ++ (10 :: jn (a :: b)) = _
        rw [h2, hc]
        rfl
    · obtain ⟨h1, h2⟩ := ih (acc ++ [c])
      refine ⟨h1, ?_⟩
      rw [h2, List.append_assoc]
      rfl
section MB
variable {P S : AH} {n : Nat → Int32} {A : Nat → Nat → Int32} {d : Nat} {s : St} {Q : Option Value → AH → Prop}
theorem mo_emit (hP : P.length = 135) (I : SI s) (M : MI s n A) (K : ∀ n' A', MI (oEmit s).1 n' A' → Q (some (.int (oEmit s).2)) (wr P S n' A')) : wp (d + 5) 134 0 [some (.ref 135), none, none] [] (wr P S n A) Q := by
  obtain ⟨W, L, R, τ, D, T, tk, Ls, br⟩ := s
  obtain ⟨m0, mL, mD, mR, mt, m3, mT, m5, m6, m7, m8, m9, mx, m23⟩ := id M
  obtain ⟨i1, i2, i3, i4, i5, i6, i7, i8, i9⟩ := id I
  have hl : (tls T).length = T.length := List.length_map _
  obtain ⟨h1, h2⟩ := emL_ok i6.1 i6.2
  refine mi_emit hP m0 (by have := i1.2; omega) (by rw [hl]; exact m3) (by rw [hl]; exact i6.1) (fun i ls hi => ?_) h1 (fun h' E => ?_)
  · unfold tls at hi
    rw [List.getElem?_map] at hi
    cases hb : T[i]? with
    | none => rw [hb] at hi; cases hi
    | some b =>
      rw [hb] at hi
      cases hi
      obtain ⟨⟨x, hx⟩, b2, b3, b4, b5⟩ := i6.2 b (List.mem_of_getElem? hb)
      obtain ⟨t1, t2, t3, t4⟩ := mT i b hb
      have hd : b.1.dropLast = x := by rw [hx, List.dropLast_concat]
      rw [hd] at t1 t3 t4
      obtain ⟨j1, j2⟩ := jn_lnz x []
      rw [List.nil_append] at j2
      rw [← hx] at j1 j2
      rw [j2]
      exact ⟨j1, b4, t3, t1, t4⟩
  · obtain ⟨n', A', rfl, e1, e2, e3, e4, e5, e6, e7, e8⟩ := E
    exact K n' A' ⟨by rw [e1 0 (by decide) (by decide) (by decide) (by decide)]; exact m0, mL.cg (e1 1 (by decide) (by decide) (by decide) (by decide)) (e6 0 (by decide)), mD.cg (e1 2 (by decide) (by decide) (by decide) (by decide)) (e6 3 (by decide)), fun r hr => (mR r hr).cg (fun j _ _ => by rw [e6 1 (by decide)]) (by rw [e6 2 (by decide)]), mt.cg (fun j _ => by rw [e6 1 (by decide)]), by rw [e1 3 (by decide) (by decide) (by decide) (by decide)]; exact m3, mT.cg (e6 4 (by decide)) (e6 6 (by decide)) (e6 7 (by decide)), by rw [e1 5 (by decide) (by decide) (by decide) (by decide)]; exact m5, e2, e3, e4, e5, e7, by rw [e1 23 (by decide) (by decide) (by decide) (by decide)]; exact m23⟩
theorem mo_add (hP : P.length = 135) {W : Nat} {L : List Int32} {R : List (List Ty)} {τ : Ty} {D : List Int32} {T : List Tst1} {tk : Int32} {Ls : List (List Int32)} {br : Nat} {x y : List Int32} {th : Bool} {u : Nat} {n2 : Nat → Int32} {A2 : Nat → Nat → Int32} {nl : Int32} {h : AH} (I : SI (W, L, R, τ, D, T, tk, Ls, br)) (M : MI (W, L, R, τ, D, T, tk, Ls, br) n A) (hT : T.length < 20) (hn : ∀ i, i ≠ 4 → i ≠ 20 → i ≠ 21 → i ≠ 23 → i ≠ 24 → n2 i = n i) (hA : ∀ i, i < 8 → A2 i = A i) (X : MS P S n2 A2 2 x u 0 [] nl h) (hu : u < 2 ^ 30) (hx : x.length < 2 ^ 30) (h1 : x.length + 1 = y.length) (h2 : y.length ≤ 300 → x ++ [10] = y) (h3 : y.length ≤ 300 → okB W y) (K : ∀ n' A', MI (oKeep y th (W, L, R, τ, D, T, nI (min u D.length), Ls, br)).1 n' A' → Q (some (.int (oKeep y th (W, L, R, τ, D, T, nI (min u D.length), Ls, br)).2)) (wr P S n' A')) : wp (d + 2) 126 0 [some (.ref 135), some (.int (if th = true then 1 else 0)), none, none] [] h Q := by
  obtain ⟨m0, mL, mD, mR, mt, m3, mT, m5, m6, m7, m8, m9, mx, m23⟩ := id M
  obtain ⟨i1, i2, i3, i4, i5, i6, i7, i8, i9⟩ := id I
  obtain ⟨v, B, rfl, v1, v20, v4, v21, v23, v24, b1, b10, b9, b8, -⟩ := X
  have w : ∀ i, i ≠ 4 → i ≠ 20 → i ≠ 21 → i ≠ 23 → i ≠ 24 → v i = n i := fun i a b c d e => by rw [v1 i a b c d e, hn i a b c d e]
  have z : ∀ i, i < 8 → B i = A i := fun i hi => by rw [b1 i hi, hA i hi]
  have hk : ∀ (n' : Nat → Int32) (A' : Nat → Nat → Int32) (T' : List Tst1), (∀ i, i ≠ 3 → i ≠ 5 → n' i = v i) → n' 3 = nI T'.length → n' 5 = nI (min u D.length) → (∀ i, i ≠ 4 → i ≠ 6 → i ≠ 7 → A' i = B i) → Tsts A' T' → MI (W, L, R, τ, D, T', nI (min u D.length), Ls, br) n' A' := by
    intro n' A' T' q1 q3 q5 qA qT
    have r1 : ∀ i, i < 8 → i ≠ 4 → i ≠ 6 → i ≠ 7 → A' i = A i := fun i hi a b c => by rw [qA i a b c, z i hi]
    refine ⟨by rw [q1 0 (by decide) (by decide), w 0 (by decide) (by decide) (by decide) (by decide) (by decide)]; exact m0, mL.cg (by rw [q1 1 (by decide) (by decide), w 1 (by decide) (by decide) (by decide) (by decide) (by decide)]) (r1 0 (by decide) (by decide) (by decide) (by decide)), mD.cg (by rw [q1 2 (by decide) (by decide), w 2 (by decide) (by decide) (by decide) (by decide) (by decide)]) (r1 3 (by decide) (by decide) (by decide) (by decide)), fun r hr => (mR r hr).cg (fun j _ _ => by rw [r1 1 (by decide) (by decide) (by decide) (by decide)]) (by rw [r1 2 (by decide) (by decide) (by decide) (by decide)]), mt.cg (fun j _ => by rw [r1 1 (by decide) (by decide) (by decide) (by decide)]), q3, qT, q5, by rw [q1 6 (by decide) (by decide), w 6 (by decide) (by decide) (by decide) (by decide) (by decide)]; exact m6, by rw [q1 7 (by decide) (by decide), w 7 (by decide) (by decide) (by decide) (by decide) (by decide)]; exact m7, by rw [q1 8 (by decide) (by decide), w 8 (by decide) (by decide) (by decide) (by decide) (by decide)]; exact m8, by rw [q1 9 (by decide) (by decide), w 9 (by decide) (by decide) (by decide) (by decide) (by decide)]; exact m9, mx.cg (r1 5 (by decide) (by decide) (by decide) (by decide)), by rw [q1 23 (by decide) (by decide), v23]; rfl⟩
  have mTB : Tsts B T := mT.cg (z 4 (by decide)) (z 6 (by decide)) (z 7 (by decide))
  have v3 : v 3 = nI T.length := by rw [w 3 (by decide) (by decide) (by decide) (by decide) (by decide)]; exact m3
  have ea : y.length ≤ 300 → (T.any (fun b => decide (b.1.dropLast = x)) = true ↔ T.any (fun b => decide (b.1 = y)) = true) := by
    intro hy
    rw [List.any_eq_true, List.any_eq_true]
    constructor
    · rintro ⟨b, hb, e⟩
      obtain ⟨⟨x', hx'⟩, -⟩ := i6.2 b hb
      refine ⟨b, hb, ?_⟩
      rw [decide_eq_true_eq] at e ⊢
      rw [hx', List.dropLast_concat] at e
      rw [hx', e, h2 hy]
    · rintro ⟨b, hb, e⟩
      refine ⟨b, hb, ?_⟩
      rw [decide_eq_true_eq] at e ⊢
      rw [e, ← h2 hy, List.dropLast_concat]
  unfold oKeep at K
  dsimp only at K
  refine mi_add (D := D) (T := T) (y := x) (u := u) (th := th) hP hu v4 (by rw [w 2 (by decide) (by decide) (by decide) (by decide) (by decide)]; exact mD.1) mD.2.1 v3 hT mTB b9 hx b8 (fun hy c hc => ?_) (fun hy => ?_) (fun hy ha => ?_) (fun hy ha A' a1 a2 => ?_)
  · have h3' := (h3 (by omega)).2.2.1
    rw [← h2 (by omega)] at h3'
    exact h3' c (List.mem_append_left _ hc)
  · rw [if_pos (by omega)] at K
    exact K _ _ (hk _ _ T (fun i a b => pk_un b) (by rw [pk_un (by decide)]; exact v3) pk_us (fun i _ _ _ => rfl) mTB)
  · rw [if_neg (by omega), if_pos ((ea (by omega)).mp ha)] at K
    exact K _ _ (hk _ _ T (fun i a b => pk_un b) (by rw [pk_un (by decide)]; exact v3) pk_us (fun i _ _ _ => rfl) mTB)
  · rw [if_neg (by omega), if_neg (fun q => ha ((ea (by omega)).mpr q))] at K
    rw [h2 (by omega)] at a2
    exact K _ _ (hk _ _ (T ++ [(y, th)]) (fun i a b => by rw [pk_un a, pk_un b]) (by rw [pk_us, List.length_append]; rfl) (by rw [pk_un (by decide), pk_us]) a1 a2)
theorem lt_loop (hP : P.length = 135) {L : List Int32} (X : Ln n A L) : ∀ (k i : Nat), i + k = L.length → (wp d 130 2 [some (.ref 135), some (.int (nI i))] [] (wr P S n A) Q ↔ Q (some (.int (if (L.drop i).all isLet = true ∧ 0 < L.length then 1 else 0))) (wr P S n A)) := by
  obtain ⟨x1, x2, x3, x4⟩ := id X
  intro k
  induction k with
  | zero =>
    intro i hi
    have hnl : ¬ nI i < nI L.length := nI_nlt (by omega) (by omega)
    simp only [k_130_2, k_130_3, k_130_3N, k_130_7, k_130_62, k_130_62N, k_130_66, k_130_4, k_130_63, ogw hP, fw_1 hP, x1, hnl, if_false, am_cat, am_kill, Value.category, List.map_cons, List.map_nil, List.sum_cons, List.sum_nil, Option.toList_some, Option.toList_none, List.cons_append, List.nil_append, List.length_cons, List.length_nil, List.getD_cons_succ, List.getD_cons_zero, List.set_cons_succ, List.set_cons_zero, Nat.reduceAdd, Nat.reduceLT, Nat.reduceLeDiff, Nat.zero_le, Nat.zero_add, Nat.add_zero]
    rw [List.drop_eq_nil_of_le (by omega)]
    by_cases hz : 0 < L.length
    · have hz2 : 0 < nI L.length := nI_lt (a := 0) hz (by omega)
      rw [if_pos hz2, if_pos ⟨rfl, hz⟩]
      simp only [k_130_69, k_130_70, k_130_74, nb1, fb1]
    · have hz2 : ¬ 0 < nI L.length := by rw [show L.length = 0 by omega]; decide
      rw [if_neg hz2, if_neg (fun q => hz q.2)]
      simp only [k_130_73, k_130_74, nb0, fb0]
  | succ k ih =>
    intro i hi
    have hlt : i < L.length := by omega
    have hnl : nI i < nI L.length := nI_lt hlt (by omega)
    have k1 := ow_0 (S := S) (n := n) (A := A) hP (show i < 40 by omega)
    have k2 : arr (wr P S n A) 136 (nI i) = .int L[i] := by rw [aw_0 hP (by omega), x3 i _ (List.getElem?_eq_getElem hlt)]
    have go : wp d 130 56 [some (.ref 135), some (.int (nI i))] [] (wr P S n A) Q ↔ Q (some (.int (if (L.drop (i + 1)).all isLet = true ∧ 0 < L.length then 1 else 0))) (wr P S n A) := by
      simp only [k_130_56, k_130_59, nI_1, am_cat, am_kill, Value.category, List.map_cons, List.map_nil, List.sum_cons, List.sum_nil, Option.toList_some, Option.toList_none, List.cons_append, List.nil_append, List.length_cons, List.length_nil, List.getD_cons_succ, List.getD_cons_zero, List.set_cons_succ, List.set_cons_zero, Nat.reduceAdd, Nat.reduceLT, Nat.reduceLeDiff, Nat.zero_le, Nat.zero_add, Nat.add_zero]
      exact ih (i + 1) (by omega)
    have no : wp d 130 54 [some (.ref 135), some (.int (nI i))] [] (wr P S n A) Q ↔ Q (some (.int 0)) (wr P S n A) := by
      simp only [k_130_54, k_130_55, nb0, fb0]
    simp only [k_130_2, k_130_3, k_130_3N, k_130_7, k_130_10, k_130_10N, k_130_14, k_130_4, k_130_11, k_130_15 k1, k_130_16, k_130_18, k_130_21, k_130_21N, k_130_25, k_130_22, k_130_26 k1, k_130_27, k_130_29, k_130_32, k_130_32N, k_130_36, k_130_33, k_130_37 k1, k_130_38, k_130_40, k_130_43, k_130_43N, k_130_47, k_130_44, k_130_48 k1, k_130_49, k_130_51, k2, ogw hP, fw_1 hP, fw_10 hP, x1, hnl, if_true, no, go, am_cat, am_kill, Value.category, List.map_cons, List.map_nil, List.sum_cons, List.sum_nil, Option.toList_some, Option.toList_none, List.cons_append, List.nil_append, List.length_cons, List.length_nil, List.getD_cons_succ, List.getD_cons_zero, List.set_cons_succ, List.set_cons_zero, Nat.reduceAdd, Nat.reduceLT, Nat.reduceLeDiff, Nat.zero_le, Nat.zero_add, Nat.add_zero]
    rw [List.drop_eq_getElem_cons hlt, List.all_cons]
    unfold isLet
    by_cases c1 : L[i] < 65 <;> by_cases c2 : 90 < L[i] <;> by_cases c3 : L[i] < 97 <;> by_cases c4 : 122 < L[i] <;> simp [c1, c2, c3, c4]
theorem sp_letters (hP : P.length = 135) {L : List Int32} (X : Ln n A L) : wp d 130 0 [some (.ref 135), none] [] (wr P S n A) Q ↔ Q (some (.int (if L.all isLet = true ∧ 0 < L.length then 1 else 0))) (wr P S n A) := by
  simp only [k_130_0, k_130_1, am_cat, am_kill, Value.category, List.map_cons, List.map_nil, List.sum_cons, List.sum_nil, Option.toList_some, Option.toList_none, List.cons_append, List.nil_append, List.length_cons, List.length_nil, List.getD_cons_succ, List.getD_cons_zero, List.set_cons_succ, List.set_cons_zero, Nat.reduceAdd, Nat.reduceLT, Nat.reduceLeDiff, Nat.zero_le, Nat.zero_add, Nat.add_zero]
  have := lt_loop (P := P) (S := S) (d := d) (Q := Q) hP X L.length 0 (by omega)
  rw [List.drop_zero] at this
  exact this
theorem mo_ret (hP : P.length = 135) (I : SI s) (M : MI s n A) (K : ∀ n' A', MI (oRet s).1 n' A' → Q (some (.int (oRet s).2)) (wr P S n' A')) : wp (d + 14) 103 0 [some (.ref 135), none, none, none, none] [] (wr P S n A) Q := by
  obtain ⟨W, L, R, τ, D, T, tk, Ls, br⟩ := s
  obtain ⟨m0, mL, mD, mR, mt, m3, mT, m5, m6, m7, m8, m9, mx, m23⟩ := id M
  obtain ⟨i1, i2, i3, i4, i5, i6, i7, i8, i9⟩ := id I
  unfold oRet at K
  dsimp only at K
  have i6' := i6.1
  have e1 : (nI T.length = 20) ↔ T.length = 20 := nI_eq (b := 20) (by omega) (by omega)
  by_cases c3 : T.length = 20
  · rw [if_pos c3] at K
    simp only [k_103_0, k_103_0N, k_103_4, k_103_6, k_103_9, k_103_11, k_103_1, ogw hP, fw_3 hP, m3, e1, c3, if_true, am_cat, am_kill, Value.category, List.map_cons, List.map_nil, List.sum_cons, List.sum_nil, Option.toList_some, Option.toList_none, List.cons_append, List.nil_append, List.length_cons, List.length_nil, List.getD_cons_succ, List.getD_cons_zero, List.set_cons_succ, List.set_cons_zero, Nat.reduceAdd, Nat.reduceLT, Nat.reduceLeDiff, Nat.zero_le, Nat.zero_add, Nat.add_zero]
    exact K n A M
  rw [if_neg c3] at K
  have hR : ∀ q, q < 4 → (R.getD q []).length ≤ 4 ∧ ∀ τ ∈ R.getD q [], okT τ := fun q hq => i3.2 q (by omega)
  have hR2 : ∀ q, q < 4 → ∀ τ ∈ R.getD q [], okT τ := fun q hq => (hR q hq).2
  have l1 := row_len (D := D) (R := R) (l := R.getD 4 []) hR i5 (i3.2 4 (by decide)).1 (i3.2 4 (by decide)).2 0
  have c1 := litR_cnt (f := litT D R 4) (litT_cnt D R 4) (R.getD 4 []) 0 0
  have p1 := Pr_call (D := D) hR2 (i3.2 4 (by decide)).2
  have p2 := Pr_out (D := D) hR2 i4 (callT D R (R.getD 4 [])).2
  have lc1 : (callT D R (R.getD 4 [])).1.length < 2 ^ 25 := by
    show (sx 2 ++ ((litR (litT D R 4) (R.getD 4 []) 0 0).1 ++ [41])).length < 2 ^ 25
    rw [List.length_append, List.length_append, show (sx 2).length = 11 from rfl]
    show 11 + ((litR (litT D R 4) (R.getD 4 []) 0 0).1.length + 1) < 2 ^ 25
    omega
  have lu1 : (callT D R (R.getD 4 [])).2 < 2 ^ 24 := by
    show (litR (litT D R 4) (R.getD 4 []) 0 0).2 < 2 ^ 24
    omega
  have lo : (outT D R τ (callT D R (R.getD 4 [])).2).1.length < 2 ^ 24 ∧ (outT D R τ (callT D R (R.getD 4 [])).2).2 < 2 ^ 26 := by
    unfold outT
    split
    · exact ⟨by show 0 < 2 ^ 24; decide, by show (callT D R (R.getD 4 [])).2 < 2 ^ 26; omega⟩
    · rename_i hv
      rcases i4 with i4 | rfl
      · have := one_len (D := D) (R := R) hR i5 i4 (callT D R (R.getD 4 [])).2
        have := litT_cnt D R 4 τ (callT D R (R.getD 4 [])).2
        exact ⟨by omega, by omega⟩
      · exact absurd ⟨rfl, rfl⟩ hv
  simp only [k_103_0, k_103_0N, k_103_4, k_103_6, k_103_12, k_103_12N, k_103_1, k_103_13, ogw hP, ovw hP, fw_3 hP, m3, e1, c3, if_false, am_cat, am_kill, Value.category, List.map_cons, List.map_nil, List.sum_cons, List.sum_nil, Option.toList_some, Option.toList_none, List.cons_append, List.nil_append, List.length_cons, List.length_nil, List.getD_cons_succ, List.getD_cons_zero, List.set_cons_succ, List.set_cons_zero, Nat.reduceAdd, Nat.reduceLT, Nat.reduceLeDiff, Nat.zero_le, Nat.zero_add, Nat.add_zero]
  refine mi_call hP m23 mD mR (by omega) (by omega) (fun h1 nl1 X1 => ?_)
  refine mi_ret hP mt mD (fun r hr => mR r (by omega)) X1 (fun c hc => asc_chr (prn_asc (p1 c hc))) lc1 (fun c hc => asc_chr (prn_asc (p2 c hc))) (by omega) (by omega) (fun h2 n2 A2 nl2 o1 o2 o3 o4 hn hA X2 => ?_)
  simp only [k_103_287, k_103_287N, k_103_288, k_103_289, X2.ov hP, am_cat, am_kill, Value.category, List.map_cons, List.map_nil, List.sum_cons, List.sum_nil, Option.toList_some, Option.toList_none, List.cons_append, List.nil_append, List.length_cons, List.length_nil, List.getD_cons_succ, List.getD_cons_zero, List.set_cons_succ, List.set_cons_zero, Nat.reduceAdd, Nat.reduceLT, Nat.reduceLeDiff, Nat.zero_le, Nat.zero_add, Nat.add_zero]
  have lm : (asM τ (outT D R τ (callT D R (R.getD 4 [])).2).1 (callT D R (R.getD 4 [])).1).length < 2 ^ 30 := by
    have := as_len τ (outT D R τ (callT D R (R.getD 4 [])).2).1 (callT D R (R.getD 4 [])).1
    have h5 : (asT τ (outT D R τ (callT D R (R.getD 4 [])).2).1 (callT D R (R.getD 4 [])).1).length ≤ 100 + (outT D R τ (callT D R (R.getD 4 [])).2).1.length + (callT D R (R.getD 4 [])).1.length := by
      have a1 := sxl 31
      have a2 := sxl 32
      have a3 := sxl 34
      have a4 := sxl 35
      have a5 := sxl 36
      have a6 := sxl 37
      have a7 : (sfx τ).length ≤ 25 := by
        unfold sfx
        split
        · exact sxl _
        · split
          · exact sxl _
          · exact sxl _
      by_cases hv : τ.1 = 0 ∧ τ.2.1 = 86
      · rw [asT_V hv]
        simp only [List.length_append, List.length_cons, List.length_nil]
        omega
      · rw [asT_N hv]
        unfold asP
        split
        · split
          · simp only [List.length_append, List.length_cons, List.length_nil]; omega
          · simp only [List.length_append, List.length_cons, List.length_nil]; omega
        · split
          · simp only [List.length_append, List.length_cons, List.length_nil]; omega
          · split
            · simp only [List.length_append, List.length_cons, List.length_nil]; omega
            · simp only [List.length_append, List.length_cons, List.length_nil]; omega
    omega
  refine mo_add (th := false) hP I M (by omega) hn hA X2 (by omega) lm (as_len _ _ _) as_eq (fun hl => ?_) (fun n' A' M' => ?_)
  · obtain ⟨c, r, q1, q2, q3⟩ := asT_form (τ := τ) p2 p1 (call84 _ _ _)
    exact as_okB i1.1 q1 q2 q3 hl
  · simp only [k_103_292, am_cat, am_kill, Value.category, List.map_cons, List.map_nil, List.sum_cons, List.sum_nil, Option.toList_some, Option.toList_none, List.cons_append, List.nil_append, List.length_cons, List.length_nil, List.getD_cons_succ, List.getD_cons_zero, List.set_cons_succ, List.set_cons_zero, Nat.reduceAdd, Nat.reduceLT, Nat.reduceLeDiff, Nat.zero_le, Nat.zero_add, Nat.add_zero]
    exact K n' A' M'
theorem mo_thr (hP : P.length = 135) (I : SI s) (M : MI s n A) (K : ∀ n' A', MI (oThr s).1 n' A' → Q (some (.int (oThr s).2)) (wr P S n' A')) : wp (d + 14) 129 0 [some (.ref 135), none, none] [] (wr P S n A) Q := by
  have hs : sN ≤ 135 := by decide
  obtain ⟨W, L, R, τ, D, T, tk, Ls, br⟩ := s
  obtain ⟨m0, mL, mD, mR, mt, m3, mT, m5, m6, m7, m8, m9, mx, m23⟩ := id M
  obtain ⟨i1, i2, i3, i4, i5, i6, i7, i8, i9⟩ := id I
  obtain ⟨x1, x2, x3, x4⟩ := id mL
  unfold oThr at K
  dsimp only at K
  have i6' := i6.1
  have e1 : (nI T.length = 20) ↔ T.length = 20 := nI_eq (b := 20) (by omega) (by omega)
  have n3 : upd n 1 0 3 = nI T.length := by rw [pk_un (by decide)]; exact m3
  have M0 : MI (W, [], R, τ, D, T, tk, Ls, br) (upd n 1 0) A := ⟨by rw [pk_un (by decide)]; exact m0, ⟨by rw [pk_us]; rfl, Nat.zero_le _, fun j c hj => absurd (show (none : Option Int32) = some c from hj) (by simp), fun c hc => absurd hc List.not_mem_nil⟩, mD.cg (pk_un (by decide)) rfl, mR, mt, n3, mT, by rw [pk_un (by decide)]; exact m5, by rw [pk_un (by decide)]; exact m6, by rw [pk_un (by decide)]; exact m7, by rw [pk_un (by decide)]; exact m8, by rw [pk_un (by decide)]; exact m9, mx, by rw [pk_un (by decide)]; exact m23⟩
  have I0 : SI (W, [], R, τ, D, T, tk, Ls, br) := ⟨i1, asc_nil, i3, i4, i5, i6, i7, i8, i9⟩
  simp only [k_129_0, k_129_0N, k_129_1, ovw hP, sp_letters hP mL, am_cat, am_kill, Value.category, List.map_cons, List.map_nil, List.sum_cons, List.sum_nil, Option.toList_some, Option.toList_none, List.cons_append, List.nil_append, List.length_cons, List.length_nil, List.getD_cons_succ, List.getD_cons_zero, List.set_cons_succ, List.set_cons_zero, Nat.reduceAdd, Nat.reduceLT, Nat.reduceLeDiff, Nat.zero_le, Nat.zero_add, Nat.add_zero]
  by_cases c1 : L.all isLet = true ∧ 0 < L.length
  · rw [if_pos c1] at K ⊢
    simp only [k_129_4, k_129_5, k_129_5N, k_129_9, k_129_10, k_129_10N, k_129_11, k_129_15, k_129_16, k_129_22, k_129_22N, k_129_26, k_129_28, k_129_6, k_129_12, k_129_23, ogw hP, fw_1 hP, fw_3 hP, hw_1 hP, hs, x1, n3, e1, show ¬ (1 : Int32) = 0 by decide, if_false, am_cat, am_kill, Value.category, List.map_cons, List.map_nil, List.sum_cons, List.sum_nil, Option.toList_some, Option.toList_none, List.cons_append, List.nil_append, List.length_cons, List.length_nil, List.getD_cons_succ, List.getD_cons_zero, List.set_cons_succ, List.set_cons_zero, Nat.reduceAdd, Nat.reduceLT, Nat.reduceLeDiff, Nat.zero_le, Nat.zero_add, Nat.add_zero]
    by_cases c3 : T.length = 20
    · rw [if_pos c3] at K ⊢
      simp only [k_129_31, k_129_33, am_cat, am_kill, Value.category, List.map_cons, List.map_nil, List.sum_cons, List.sum_nil, Option.toList_some, Option.toList_none, List.cons_append, List.nil_append, List.length_cons, List.length_nil, List.getD_cons_succ, List.getD_cons_zero, List.set_cons_succ, List.set_cons_zero, Nat.reduceAdd, Nat.reduceLT, Nat.reduceLeDiff, Nat.zero_le, Nat.zero_add, Nat.add_zero]
      exact K _ _ M0
    rw [if_neg c3] at K ⊢
    have hR : ∀ q, q < 4 → (R.getD q []).length ≤ 4 ∧ ∀ τ ∈ R.getD q [], okT τ := fun q hq => i3.2 q (by omega)
    have hR2 : ∀ q, q < 4 → ∀ τ ∈ R.getD q [], okT τ := fun q hq => (hR q hq).2
    have l1 := row_len (D := D) (R := R) (l := R.getD 4 []) hR i5 (i3.2 4 (by decide)).1 (i3.2 4 (by decide)).2 0
    have c2 := litR_cnt (f := litT D R 4) (litT_cnt D R 4) (R.getD 4 []) 0 0
    have p1 := Pr_call (D := D) hR2 (i3.2 4 (by decide)).2
    have lc1 : (callT D R (R.getD 4 [])).1.length < 2 ^ 25 := by
      show (sx 2 ++ ((litR (litT D R 4) (R.getD 4 []) 0 0).1 ++ [41])).length < 2 ^ 25
      rw [List.length_append, List.length_append, show (sx 2).length = 11 from rfl]
      show 11 + ((litR (litT D R 4) (R.getD 4 []) 0 0).1.length + 1) < 2 ^ 25
      omega
    have lu1 : (callT D R (R.getD 4 [])).2 < 2 ^ 24 := by
      show (litR (litT D R 4) (R.getD 4 []) 0 0).2 < 2 ^ 24
      omega
    simp only [k_129_34, k_129_34N, k_129_35, ovw hP, am_cat, am_kill, Value.category, List.map_cons, List.map_nil, List.sum_cons, List.sum_nil, Option.toList_some, Option.toList_none, List.cons_append, List.nil_append, List.length_cons, List.length_nil, List.getD_cons_succ, List.getD_cons_zero, List.set_cons_succ, List.set_cons_zero, Nat.reduceAdd, Nat.reduceLT, Nat.reduceLeDiff, Nat.zero_le, Nat.zero_add, Nat.add_zero]
    refine mi_call hP (by rw [pk_un (by decide)]; exact m23) (mD.cg (pk_un (by decide)) rfl) mR (by omega) (by omega) (fun h1 nl1 X1 => ?_)
    refine mi_thr hP x3 (fun c hc => asc_chr (x4 c hc)) x2 X1 (fun c hc => asc_chr (prn_asc (p1 c hc))) lc1 (fun h2 n2 A2 nl2 hn hA X2 => ?_)
    simp only [k_129_114, k_129_114N, k_129_115, k_129_116, X2.ov hP, am_cat, am_kill, Value.category, List.map_cons, List.map_nil, List.sum_cons, List.sum_nil, Option.toList_some, Option.toList_none, List.cons_append, List.nil_append, List.length_cons, List.length_nil, List.getD_cons_succ, List.getD_cons_zero, List.set_cons_succ, List.set_cons_zero, Nat.reduceAdd, Nat.reduceLT, Nat.reduceLeDiff, Nat.zero_le, Nat.zero_add, Nat.add_zero]
    have lm : (ctM L (callT D R (R.getD 4 [])).1).length < 2 ^ 30 := by
      have := ct_len L (callT D R (R.getD 4 [])).1
      have h5 : (ctT L (callT D R (R.getD 4 [])).1).length = 43 + (callT D R (R.getD 4 [])).1.length + 2 * L.length := by
        unfold ctT
        simp only [List.length_append]
        rw [show (sx 42).length = 10 from rfl, show (sx 43).length = 12 from rfl, show (sx 44).length = 13 from rfl, show (sx 45).length = 8 from rfl]
        omega
      omega
    refine mo_add (th := true) hP I0 M0 (by omega) hn hA X2 (by omega) lm (ct_len _ _) ct_eq (fun hl => ct_okB i1.1 c1.1 c1.2 p1 (call84 _ _ _) hl) (fun n' A' M' => ?_)
    simp only [k_129_119, am_cat, am_kill, Value.category, List.map_cons, List.map_nil, List.sum_cons, List.sum_nil, Option.toList_some, Option.toList_none, List.cons_append, List.nil_append, List.length_cons, List.length_nil, List.getD_cons_succ, List.getD_cons_zero, List.set_cons_succ, List.set_cons_zero, Nat.reduceAdd, Nat.reduceLT, Nat.reduceLeDiff, Nat.zero_le, Nat.zero_add, Nat.add_zero]
    exact K n' A' M'
  · rw [if_neg c1] at K ⊢
    simp only [k_129_4, k_129_5, k_129_5N, k_129_9, k_129_10, k_129_10N, k_129_11, k_129_15, k_129_16, k_129_19, k_129_21, k_129_6, k_129_12, ogw hP, fw_1 hP, hw_1 hP, hs, x1, if_true, am_cat, am_kill, Value.category, List.map_cons, List.map_nil, List.sum_cons, List.sum_nil, Option.toList_some, Option.toList_none, List.cons_append, List.nil_append, List.length_cons, List.length_nil, List.getD_cons_succ, List.getD_cons_zero, List.set_cons_succ, List.set_cons_zero, Nat.reduceAdd, Nat.reduceLT, Nat.reduceLeDiff, Nat.zero_le, Nat.zero_add, Nat.add_zero]
    exact K _ _ M0
end MB
