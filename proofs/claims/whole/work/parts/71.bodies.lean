/-! BODIES: their lines, their lengths -/
theorem Pr_sx2 : ∀ i, i < 52 → 30 ≤ i → (i < 41 ∨ 46 ≤ i) → Pr (sx i) := by unfold Pr prn sx; decide +kernel
theorem lnz_app : ∀ (x acc r : List Int32), (∀ c ∈ x, c ≠ 10) → lnz acc (x ++ (10 :: r)) = (acc ++ x) :: lnz [] r := by
  intro x
  induction x with
  | nil =>
    intro acc r _
    show (if (10 : Int32) = 10 then acc :: lnz [] r else lnz (acc ++ [10]) r) = _
    rw [if_pos rfl, List.append_nil]
  | cons c x ih =>
    intro acc r h
    show (if c = 10 then acc :: lnz [] (x ++ (10 :: r)) else lnz (acc ++ [c]) (x ++ (10 :: r))) = _
    rw [if_neg (h c List.mem_cons_self), ih _ _ (fun y hy => h y (List.mem_cons_of_mem _ hy)), List.append_assoc]
    rfl
theorem Pr.n10 {x : List Int32} (h : Pr x) : ∀ c ∈ x, c ≠ 10 := fun c hc => prn_10 (h c hc)
theorem lb_rp {c : Int32} (hc : c ≠ 32) : ∀ (k : Nat) (r : List Int32), lb (rp k ++ (c :: r)) = k := by
  intro k
  induction k with
  | zero =>
    intro r
    show (if c = 32 then lb r + 1 else 0) = 0
    rw [if_neg hc]
  | succ k ih =>
    intro r
    show (if (32 : Int32) = 32 then lb (rp k ++ (c :: r)) + 1 else 0) = k + 1
    rw [if_pos rfl, ih]
theorem Pr_rp (k : Nat) : Pr (rp k) := fun c hc => by
  rw [List.eq_of_mem_replicate hc]
  exact ⟨by decide, by decide⟩
theorem okL_of {c : Int32} {r : List Int32} {k : Nat} (hk : k ≤ 4) (hc : c ≠ 32) (hp : Pr (c :: r)) : okL (rp k ++ (c :: r)) := by
  refine ⟨by rw [lb_rp hc]; exact hk, ⟨c, ?_⟩, fun x hx => ?_⟩
  · rw [lb_rp hc, List.drop_append_of_le_length (by rw [rp_len]; exact Nat.le_refl _), List.drop_of_length_le (by rw [rp_len]; exact Nat.le_refl _)]
    rfl
  · have := (Pr_rp k).app hp x hx
    exact ⟨prn_asc this, prn_10 this⟩
theorem bk_top {W : Nat} {l : List Int32} (hW : 40 ≤ W) (h : lb l ≤ 4) : bks W (8 + lb l) 100 (8 + lb l) (l.drop (lb l)) ≤ 2 ∨ 11 * bks W (8 + lb l) 100 (8 + lb l) (l.drop (lb l)) + 10 + lb l ≤ l.length := by
  have h1 := bks_top hW (show 8 + lb l ≤ 12 by omega) 100 (l.drop (lb l))
  have hs := congrArg List.length (lb_split l)
  rw [List.length_append, rp_len] at hs
  omega
def asP (τ : Ty) (lit : List Int32) : List Int32 := if τ.1 = 0 ∧ τ.2.1 = 90 then (if lit = sx 30 then sx 31 else sx 32) else if lit = sx 33 then sx 34 else (if 0 < τ.1 then sx 35 else sx 36) ++ (lit ++ sx 37)
theorem asP_pr {τ : Ty} {lit : List Int32} (h : Pr lit) : Pr (asP τ lit) ∧ ∃ r, asP τ lit = 97 :: r := by
  unfold asP
  split
  · split
    · exact ⟨Pr_sx2 31 (by decide) (by decide) (by decide), _, rfl⟩
    · exact ⟨Pr_sx2 32 (by decide) (by decide) (by decide), _, rfl⟩
  · split
    · exact ⟨Pr_sx2 34 (by decide) (by decide) (by decide), _, rfl⟩
    · split
      · exact ⟨(Pr_sx2 35 (by decide) (by decide) (by decide)).app (h.app (Pr_sx2 37 (by decide) (by decide) (by decide))), _, rfl⟩
      · exact ⟨(Pr_sx2 36 (by decide) (by decide) (by decide)).app (h.app (Pr_sx2 37 (by decide) (by decide) (by decide))), _, rfl⟩
theorem sfx_pr (τ : Ty) : Pr (sfx τ) := by
  unfold sfx
  split
  · exact Pr_sx2 38 (by decide) (by decide) (by decide)
  · split
    · exact Pr_sx2 39 (by decide) (by decide) (by decide)
    · exact Pr_sx2 40 (by decide) (by decide) (by decide)
theorem asT_V {τ : Ty} {lit call : List Int32} (h : τ.1 = 0 ∧ τ.2.1 = 86) : asT τ lit call = (call ++ [59]) ++ [10] := by
  unfold asT
  rw [if_pos h, List.append_assoc]
  rfl
theorem asT_N {τ : Ty} {lit call : List Int32} (h : ¬ (τ.1 = 0 ∧ τ.2.1 = 86)) : asT τ lit call = (asP τ lit ++ (call ++ (sfx τ ++ [41, 59]))) ++ [10] := by
  unfold asT
  rw [if_neg h, show sx 41 = [41, 59] ++ [10] from rfl]
  unfold asP
  simp only [List.append_assoc]
theorem asT_form {τ : Ty} {lit call : List Int32} (h1 : Pr lit) (h2 : Pr call) (hc : ∃ r, call = 84 :: r) : ∃ c r, asT τ lit call = (c :: r) ++ [10] ∧ Pr (c :: r) ∧ c ≠ 32 := by
  by_cases h : τ.1 = 0 ∧ τ.2.1 = 86
  · obtain ⟨r, rfl⟩ := hc
    rw [asT_V h]
    exact ⟨84, r ++ [59], rfl, by rw [← List.cons_append]; exact h2.app (Pr.one (c := 59) ⟨by decide, by decide⟩), by decide⟩
  · rw [asT_N h]
    obtain ⟨p1, r, p2⟩ := asP_pr (τ := τ) h1
    rw [p2] at p1 ⊢
    refine ⟨97, r ++ (call ++ (sfx τ ++ [41, 59])), rfl, ?_, by decide⟩
    exact p1.app (h2.app ((sfx_pr τ).app (Pr.cons ⟨by decide, by decide⟩ (Pr.one ⟨by decide, by decide⟩))))
theorem as_okB {W : Nat} {y : List Int32} {c : Int32} {r : List Int32} (hW : 40 ≤ W) (hy : y = (c :: r) ++ [10]) (hp : Pr (c :: r)) (hc : c ≠ 32) (hl : y.length ≤ 300) : okB W y := by
  have e : lnz [] y = [c :: r] := by
    rw [hy, lnz_app (c :: r) [] [] hp.n10]
    rfl
  have hlb : lb (c :: r) = 0 := by
    show (if c = 32 then lb r + 1 else 0) = 0
    rw [if_neg hc]
  refine ⟨⟨_, hy⟩, hl, fun x hx => ?_, fun l hl => ?_, ?_⟩
  · rw [hy] at hx
    rcases List.mem_append.mp hx with hx | hx
    · exact prn_asc (hp x hx)
    · rw [List.mem_singleton.mp hx]
      exact ⟨by decide, by decide⟩
  · rw [e] at hl
    rw [List.mem_singleton.mp hl]
    exact okL_of (k := 0) (by decide) hc hp
  · rw [e]
    have e2 : bodyE W [c :: r] = bkL W (c :: r) ++ [] := rfl
    rw [e2, List.append_nil, bkL_tx]
    have h1 := bk_top (l := c :: r) hW (by omega)
    rw [hlb] at h1 ⊢
    rw [hy, List.length_append] at hl
    have hl : (c :: r).length + 1 ≤ 300 := hl
    omega
def L3 (nm : List Int32) : List Int32 := [102, 97, 105, 108, 40, 34] ++ (nm ++ [34, 41, 59])
def L4 (nm : List Int32) : List Int32 := [125, 32, 99, 97, 116, 99, 104, 32, 40] ++ (nm ++ [32, 101, 41, 32, 123])
theorem ctT_form (nm call : List Int32) : ctT nm call = [116, 114, 121, 32, 123] ++ (10 :: ((rp 4 ++ (call ++ [59])) ++ (10 :: ((rp 4 ++ L3 nm) ++ (10 :: (L4 nm ++ (10 :: ([125] ++ (10 :: []))))))))) := by
  unfold ctT L3 L4
  rw [show sx 42 = [116, 114, 121, 32, 123] ++ (10 :: rp 4) from rfl, show sx 43 = [59] ++ (10 :: (rp 4 ++ [102, 97, 105, 108, 40, 34])) from rfl, show sx 44 = [34, 41, 59] ++ (10 :: [125, 32, 99, 97, 116, 99, 104, 32, 40]) from rfl, show sx 45 = [32, 101, 41, 32, 123] ++ (10 :: ([125] ++ (10 :: []))) from rfl]
  simp only [List.append_assoc, List.cons_append, List.nil_append]
theorem let_prn {c : Int32} (h : isLet c = true) : prn c ∧ c ≠ 44 ∧ c ≠ 32 := by
  have h2 : 65 ≤ c.toInt ∧ c.toInt ≤ 122 := by
    unfold isLet at h
    simp only [Bool.or_eq_true, Bool.and_eq_true, Bool.not_eq_true', decide_eq_false_iff_not, Int32.lt_iff_toInt_lt] at h
    have e1 : (65 : Int32).toInt = 65 := rfl
    have e2 : (90 : Int32).toInt = 90 := rfl
    have e3 : (97 : Int32).toInt = 97 := rfl
    have e4 : (122 : Int32).toInt = 122 := rfl
    rw [e1, e2, e3, e4] at h
    omega
  refine ⟨⟨by omega, by omega⟩, fun z => ?_, fun z => ?_⟩
  · rw [z] at h2; exact absurd h2.1 (by decide)
  · rw [z] at h2; exact absurd h2.1 (by decide)
theorem ct_okB {W : Nat} {nm call : List Int32} (hW : 40 ≤ W) (hn : nm.all isLet = true) (h0 : 0 < nm.length) (h2 : Pr call) (hc : ∃ r, call = 84 :: r) (hl : (ctT nm call).length ≤ 300) : okB W (ctT nm call) := by
  have hm : ∀ c ∈ nm, prn c ∧ c ≠ 44 ∧ c ≠ 32 := fun c hx => let_prn (List.all_eq_true.mp hn c hx)
  have hmp : Pr nm := fun c hx => (hm c hx).1
  have p1 : Pr [116, 114, 121, 32, 123] := by unfold Pr prn; decide
  have p2 : Pr (call ++ [59]) := h2.app (Pr.one ⟨by decide, by decide⟩)
  have p3 : Pr (L3 nm) := Pr.app (by unfold Pr prn; decide) (hmp.app (by unfold Pr prn; decide))
  have p4 : Pr (L4 nm) := Pr.app (by unfold Pr prn; decide) (hmp.app (by unfold Pr prn; decide))
  have p5 : Pr [125] := by unfold Pr prn; decide
  have e : lnz [] (ctT nm call) = [[116, 114, 121, 32, 123], rp 4 ++ (call ++ [59]), rp 4 ++ L3 nm, L4 nm, [125]] := by
    rw [ctT_form, lnz_app _ [] _ p1.n10, lnz_app _ [] _ ((Pr_rp 4).app p2).n10, lnz_app _ [] _ ((Pr_rp 4).app p3).n10, lnz_app _ [] _ p4.n10, lnz_app _ [] _ p5.n10]
    rfl
  have n1 : ∀ c ∈ [116, 114, 121, 32, 123], c ≠ (44 : Int32) := by decide
  have n3 : ∀ c ∈ L3 nm, c ≠ 44 := by
    intro c hx
    rcases List.mem_append.mp hx with hx | hx
    · exact (by decide : ∀ c ∈ [102, 97, 105, 108, 40, 34], c ≠ (44 : Int32)) c hx
    · rcases List.mem_append.mp hx with hx | hx
      · exact (hm c hx).2.1
      · exact (by decide : ∀ c ∈ [34, 41, 59], c ≠ (44 : Int32)) c hx
  have n4 : ∀ c ∈ L4 nm, c ≠ 44 := by
    intro c hx
    rcases List.mem_append.mp hx with hx | hx
    · exact (by decide : ∀ c ∈ [125, 32, 99, 97, 116, 99, 104, 32, 40], c ≠ (44 : Int32)) c hx
    · rcases List.mem_append.mp hx with hx | hx
      · exact (hm c hx).2.1
      · exact (by decide : ∀ c ∈ [32, 101, 41, 32, 123], c ≠ (44 : Int32)) c hx
  obtain ⟨r, rfl⟩ := hc
  have ll : (ctT nm (84 :: r)).length = 43 + (r.length + 1) + 2 * nm.length := by
    unfold ctT
    simp only [List.length_append]
    rw [show (sx 42).length = 10 from rfl, show (sx 43).length = 12 from rfl, show (sx 44).length = 13 from rfl, show (sx 45).length = 8 from rfl, List.length_cons]
    omega
  rw [ll] at hl
  have l3 : (L3 nm).length = 9 + nm.length := by
    unfold L3
    rw [List.length_append, List.length_append]
    show 6 + (nm.length + 3) = _
    omega
  have l4 : (L4 nm).length = 14 + nm.length := by
    unfold L4
    rw [List.length_append, List.length_append]
    show 9 + (nm.length + 5) = _
    omega
  refine ⟨⟨[116, 114, 121, 32, 123] ++ (10 :: ((rp 4 ++ ((84 :: r) ++ [59])) ++ (10 :: ((rp 4 ++ L3 nm) ++ (10 :: (L4 nm ++ (10 :: [125]))))))), ?_⟩, by rw [ll]; exact hl, fun x hx => ?_, fun l hl => ?_, ?_⟩
  · rw [ctT_form]
    simp only [List.append_assoc, List.cons_append, List.nil_append]
  · rw [ctT_form] at hx
    have a10 : asc 10 := ⟨by decide, by decide⟩
    simp only [List.mem_append, List.mem_cons] at hx
    have q2 : ∀ x, x ∈ rp 4 → asc x := fun x hx => prn_asc (Pr_rp 4 x hx)
    have q1 : ∀ x, (x = 116 ∨ x = 114 ∨ x = 121 ∨ x = 32 ∨ x = 123 ∨ x ∈ ([] : List Int32)) → asc x := by
      intro x hx
      rcases hx with rfl | rfl | rfl | rfl | rfl | hx
      · exact ⟨by decide, by decide⟩
      · exact ⟨by decide, by decide⟩
      · exact ⟨by decide, by decide⟩
      · exact ⟨by decide, by decide⟩
      · exact ⟨by decide, by decide⟩
      · exact absurd hx List.not_mem_nil
    rcases hx with hx | rfl | (hx | (hx | hx) | hx | hx) | rfl | (hx | hx) | rfl | hx | rfl | (hx | hx) | rfl | hx
    · exact q1 x hx
    · exact a10
    · exact q2 x hx
    · rw [hx]; exact ⟨by decide, by decide⟩
    · exact prn_asc (h2 x (List.mem_cons_of_mem _ hx))
    · rw [hx]; exact ⟨by decide, by decide⟩
    · exact absurd hx List.not_mem_nil
    · exact a10
    · exact q2 x hx
    · exact prn_asc (p3 x hx)
    · exact a10
    · exact prn_asc (p4 x hx)
    · exact a10
    · rw [hx]; exact ⟨by decide, by decide⟩
    · exact absurd hx List.not_mem_nil
    · exact a10
    · exact absurd hx List.not_mem_nil
  · rw [e] at hl
    simp only [List.mem_cons] at hl
    rcases hl with rfl | rfl | rfl | rfl | rfl | hl
    · exact okL_of (k := 0) (by decide) (by decide) p1
    · exact okL_of (k := 4) (by decide) (by decide) p2
    · exact okL_of (k := 4) (by decide) (by decide) p3
    · exact okL_of (k := 0) (by decide) (by decide) p4
    · exact okL_of (k := 0) (by decide) (by decide) p5
    · exact absurd hl List.not_mem_nil
  · rw [e]
    have e2 : bodyE W [[116, 114, 121, 32, 123], rp 4 ++ ((84 :: r) ++ [59]), rp 4 ++ L3 nm, L4 nm, [125]] = bkL W [116, 114, 121, 32, 123] ++ (bkL W (rp 4 ++ ((84 :: r) ++ [59])) ++ (bkL W (rp 4 ++ L3 nm) ++ (bkL W (L4 nm) ++ (bkL W [125] ++ [])))) := rfl
    rw [e2, List.append_nil, tx_app2, tx_app2, tx_app2, tx_app2, List.length_append, List.length_append, List.length_append, List.length_append, bkL_tx, bkL_tx, bkL_tx, bkL_tx, bkL_tx]
    have b1 : lb (rp 4 ++ ((84 :: r) ++ [59])) = 4 := lb_rp (c := 84) (by decide) 4 (r ++ [59])
    have h1 := bk_top (l := rp 4 ++ ((84 :: r) ++ [59])) hW (by omega)
    rw [bks_no _ _ _ _ (r := [116, 114, 121, 32, 123].drop (lb [116, 114, 121, 32, 123])) (fun c hx => n1 c (List.mem_of_mem_drop hx))]
    rw [bks_no _ _ _ _ (r := (rp 4 ++ L3 nm).drop (lb (rp 4 ++ L3 nm))) (fun c hx => by
      rcases List.mem_append.mp (List.mem_of_mem_drop hx) with hx | hx
      · rw [List.eq_of_mem_replicate hx]; decide
      · exact n3 c hx)]
    rw [bks_no _ _ _ _ (r := (L4 nm).drop (lb (L4 nm))) (fun c hx => n4 c (List.mem_of_mem_drop hx))]
    rw [bks_no _ _ _ _ (r := [125].drop (lb [125])) (fun c hx => (by decide : ∀ c ∈ [125], c ≠ (44 : Int32)) c (List.mem_of_mem_drop hx))]
    have l2 : (rp 4 ++ ((84 :: r) ++ [59])).length = 6 + r.length := by
      rw [List.length_append, List.length_append, rp_len]
      show 4 + (r.length + 1 + 1) = _
      omega
    have l5 : (rp 4 ++ L3 nm).length = 13 + nm.length := by rw [List.length_append, rp_len, l3]; omega
    rw [b1] at h1 ⊢
    rw [l2] at h1 ⊢
    rw [l5, l4, Nat.zero_mul, Nat.zero_mul, Nat.zero_mul, Nat.zero_mul]
    show 9 + 5 + 0 + _ ≤ 794
    have l6 : [(125 : Int32)].length = 1 := rfl
    rw [l6]
    omega
/-! what the reference writes against it -/
theorem as_len (τ : Ty) (lit call : List Int32) : (asM τ lit call).length + 1 = (asT τ lit call).length := by
  by_cases h : τ.1 = 0 ∧ τ.2.1 = 86
  · rw [asT_V h]
    unfold asM
    rw [if_pos h, if_pos h]
    simp only [List.length_append, cpT_len, List.length_nil, List.length_cons]
    omega
  · rw [asT_N h]
    unfold asM asP
    rw [if_neg h, if_neg h]
    split
    · simp only [List.length_append, cpT_len, List.length_nil, List.length_cons, Nat.add_assoc]
    · split
      · simp only [List.length_append, cpT_len, List.length_nil, List.length_cons, Nat.add_assoc]
      · simp only [List.length_append, cpT_len, List.length_nil, List.length_cons, Nat.add_assoc]
theorem as_eq {τ : Ty} {lit call : List Int32} (hl : (asT τ lit call).length ≤ 300) : asM τ lit call ++ [10] = asT τ lit call := by
  by_cases h : τ.1 = 0 ∧ τ.2.1 = 86
  · rw [asT_V h] at hl ⊢
    simp only [List.length_append] at hl
    unfold asM
    rw [if_pos h, if_pos h, cpT_eq (by omega)]
    simp only [List.append_assoc, List.nil_append]
  · rw [asT_N h] at hl ⊢
    unfold asM
    rw [if_neg h, if_neg h]
    unfold asP at hl ⊢
    split
    · rename_i c
      rw [if_pos c] at hl
      simp only [List.length_append] at hl
      rw [cpT_eq (t := call) (by omega)]
      simp only [List.append_assoc, List.cons_append, List.nil_append]
    · rename_i c
      rw [if_neg c] at hl
      split
      · rename_i c2
        rw [if_pos c2] at hl
        simp only [List.length_append] at hl
        rw [cpT_eq (t := call) (by omega)]
        simp only [List.append_assoc, List.cons_append, List.nil_append]
      · rename_i c2
        rw [if_neg c2] at hl
        simp only [List.length_append] at hl
        rw [cpT_eq (t := call) (by omega), cpT_eq (t := lit) (by omega)]
        simp only [List.append_assoc, List.cons_append, List.nil_append]
theorem ct_len (nm call : List Int32) : (ctM nm call).length + 1 = (ctT nm call).length := by
  unfold ctM ctT
  simp only [List.length_append, cpT_len]
  rw [show (sx 45).length = 8 from rfl]
  show _ + (_ + (_ + (_ + (_ + (_ + 7))))) + 1 = _
  omega
theorem ct_eq {nm call : List Int32} (hl : (ctT nm call).length ≤ 300) : ctM nm call ++ [10] = ctT nm call := by
  unfold ctT at hl ⊢
  simp only [List.length_append] at hl
  unfold ctM
  rw [cpT_eq (by omega), show sx 45 = [32, 101, 41, 32, 123, 10, 125] ++ [10] from rfl]
  simp only [List.append_assoc]
/-! what the builder of the text may leave out -/
theorem Cut.cases {D x t : List Int32} {u : Nat} (h : Cut D x t u) : t = x ∨ (300 < t.length ∧ 300 < x.length) := h.elim Or.inl (fun z => Or.inr ⟨z.1, z.2.1⟩)
theorem asT_ge {τ : Ty} (lit call : List Int32) : call.length ≤ (asT τ lit call).length := by
  by_cases h : τ.1 = 0 ∧ τ.2.1 = 86
  · rw [asT_V h]
    simp only [List.length_append]
    omega
  · rw [asT_N h]
    simp only [List.length_append]
    omega
theorem asT_ge2 {τ : Ty} {lit call : List Int32} (h1 : ¬ (τ.1 = 0 ∧ τ.2.1 = 86)) (h2 : ¬ (τ.1 = 0 ∧ τ.2.1 = 90)) (h3 : 300 < lit.length) : 300 < (asT τ lit call).length := by
  rw [asT_N h1]
  unfold asP
  rw [if_neg h2, if_neg (fun z => by rw [z] at h3; exact absurd h3 (by decide))]
  simp only [List.length_append]
  omega
theorem asT_cut {D : List Int32} {τ : Ty} {lit tl call tc : List Int32} {u1 u2 : Nat} (h1 : Cut D call tc u1) (h2 : Cut D lit tl u2) (hV : (τ.1 = 0 ∧ τ.2.1 = 86) ∨ (τ.1 = 0 ∧ τ.2.1 = 90) → lit.length ≤ 300) : asT τ tl tc = asT τ lit call ∨ (300 < (asT τ tl tc).length ∧ 300 < (asT τ lit call).length) := by
  rcases h1.cases with rfl | ⟨a1, a2⟩
  · rcases h2.cases with rfl | ⟨b1, b2⟩
    · exact Or.inl rfl
    · by_cases c1 : τ.1 = 0 ∧ τ.2.1 = 86
      · have := hV (Or.inl c1)
        omega
      · by_cases c2 : τ.1 = 0 ∧ τ.2.1 = 90
        · have := hV (Or.inr c2)
          omega
        · exact Or.inr ⟨asT_ge2 c1 c2 b1, asT_ge2 c1 c2 b2⟩
  · have := asT_ge (τ := τ) tl tc
    have := asT_ge (τ := τ) lit call
    exact Or.inr ⟨by omega, by omega⟩
theorem ctT_ge (nm call : List Int32) : call.length ≤ (ctT nm call).length := by
  unfold ctT
  simp only [List.length_append]
  omega
theorem ctT_cut {D : List Int32} {nm call tc : List Int32} {u1 : Nat} (h1 : Cut D call tc u1) : ctT nm tc = ctT nm call ∨ (300 < (ctT nm tc).length ∧ 300 < (ctT nm call).length) := by
  rcases h1.cases with rfl | ⟨a1, a2⟩
  · exact Or.inl rfl
  · have := ctT_ge nm tc
    have := ctT_ge nm call
    exact Or.inr ⟨by omega, by omega⟩
