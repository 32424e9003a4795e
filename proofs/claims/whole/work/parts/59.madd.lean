/-! THE REFERENCE: returned and threw up to the adding, the adding -/
section MAD
variable {P S h : AH} {n n0 : Nat → Int32} {A A0 : Nat → Nat → Int32} {k u ar d : Nat} {t w D tc tl : List Int32} {nl x : Int32} {o1 : Option Value} {R : List (List Ty)} {τ : Ty} {Q : Option Value → AH → Prop}
theorem mi_ret (hP : P.length = 135) (hτ : (okT τ ∧ At A 200 τ.1 τ.2.1 τ.2.2) ∨ (τ = (0, 86, 0) ∧ A 1 200 = 86)) (X : Mst n A D) (XR : ∀ r, r < 4 → Mrw A R r) (M : MS P S n A 0 tc u 0 [] nl h) (hc : ∀ c ∈ tc, chr c) (hl : tc.length < 2 ^ 25) (hcl : ∀ c ∈ (outT D R τ u).1, chr c) (hll : (outT D R τ u).1.length < 2 ^ 25) (hu : (outT D R τ u).2 < 2 ^ 28) (K : ∀ h' n2 A2 nl' o1 o2 o3 o4, (∀ i, i ≠ 4 → i ≠ 20 → i ≠ 21 → i ≠ 23 → i ≠ 24 → n2 i = n i) → (∀ i, i < 8 → A2 i = A i) → MS P S n2 A2 2 (asM τ (outT D R τ u).1 tc) (outT D R τ u).2 0 [] nl' h' → wp (d + 14) 103 287 [some (.ref 135), o1, o2, o3, o4] [] h' Q) : wp (d + 14) 103 16 [some (.ref 135), none, none, none, none] [] h Q := by
  have hs : sN ≤ 135 := by decide
  have hs2 : sN ≤ 145 := by decide
  obtain ⟨n1, A1, hh, m1, m2, m3, m4, m5, m6, m7, m8, m9, m10, m11⟩ := id M
  subst hh
  have et0 : A 1 200 = if 0 < τ.1 then 91 else τ.2.1 := by
    rcases hτ with ⟨q1, q2⟩ | ⟨q1, q2⟩
    · by_cases c : 0 < τ.1
      · rw [if_pos c]
        exact q2.1 0 c
      · rw [if_neg c]
        have := q2.2.1
        rw [show τ.1 = 0 by omega] at this
        exact this
    · rw [q1]
      exact q2
  have hne : τ.2.1 ≠ 91 := hτ.elim (fun q => okT_ne q.1) (fun q => by rw [q.1]; decide)
  have tq : ∀ c, c ≠ 91 → (A 1 200 = c ↔ τ.1 = 0 ∧ τ.2.1 = c) := by
    intro c hc
    rw [et0]
    by_cases cb : 0 < τ.1
    · rw [if_pos cb]
      exact ⟨fun q => absurd q.symm hc, fun q => by omega⟩
    · rw [if_neg cb]
      exact ⟨fun q => ⟨by omega, q⟩, fun q => q.2⟩
  have t91 : A 1 200 = 91 ↔ 0 < τ.1 := by
    rw [et0]
    by_cases cb : 0 < τ.1
    · rw [if_pos cb]
      exact ⟨fun _ => cb, fun _ => rfl⟩
    · rw [if_neg cb]
      exact ⟨fun q => absurd q hne, fun q => absurd q cb⟩
  have t86 := tq 86 (by decide)
  have t90 := tq 90 (by decide)
  have i200 : (200 : Int32) = nI 200 := rfl
  have i1 : (1 : Int32) = nI 1 := rfl
  have i2 : (2 : Int32) = nI 2 := rfl
  have i0 : (0 : Int32) = nI 0 := rfl
  simp only [k_103_16, k_103_16N, k_103_20, k_103_17, ogw hP, fw_11 hP, am_cat, am_kill, Value.category, List.map_cons, List.map_nil, List.sum_cons, List.sum_nil, Option.toList_some, Option.toList_none, List.cons_append, List.nil_append, List.length_cons, List.length_nil, List.getD_cons_succ, List.getD_cons_zero, List.set_cons_succ, List.set_cons_zero, Nat.reduceAdd, Nat.reduceLT, Nat.reduceLeDiff, Nat.zero_le, Nat.zero_add, Nat.add_zero]
  rw [i200, k_103_23 (ow_1 hP (by decide)), aw_1 hP (by decide), m7 1 (by decide)]
  simp only [k_103_24, k_103_25, k_103_25N, k_103_26, k_103_30, k_103_30N, k_103_34, k_103_35, k_103_27, k_103_31, ogw hP, hw_20 hP, fw_19 hP, hs, am_cat, am_kill, Value.category, List.map_cons, List.map_nil, List.sum_cons, List.sum_nil, Option.toList_some, Option.toList_none, List.cons_append, List.nil_append, List.length_cons, List.length_nil, List.getD_cons_succ, List.getD_cons_zero, List.set_cons_succ, List.set_cons_zero, Nat.reduceAdd, Nat.reduceLT, Nat.reduceLeDiff, Nat.zero_le, Nat.zero_add, Nat.add_zero]
  rw [i1, k_103_36 (ow_9 hP (by decide)) hs2, sw_9 hP (by decide)]
  have Xn : Mst n1 A1 D := ⟨by rw [m1 2 (by decide) (by decide) (by decide) (by decide) (by decide)]; exact X.1, X.2.1, fun j c hj => by rw [m7 3 (by decide)]; exact X.2.2 j c hj⟩
  have XRn : ∀ r, r < 4 → Mrw A1 R r := by
    intro r hr
    obtain ⟨x1, x2, x3, x4, x5⟩ := XR r hr
    have eA : A1 1 = A 1 := m7 1 (by decide)
    refine ⟨by rw [m7 2 (by decide)]; exact x1, ?_, x3, x4, x5⟩
    have key : ∀ (l : List Ty) (p : Nat), RowAt A p l → RowAt A1 p l := by
      intro l
      induction l with
      | nil => intro p _; trivial
      | cons σ l ih =>
        intro p hp
        exact ⟨⟨fun i hi => by rw [eA]; exact hp.1.1 i hi, by rw [eA]; exact hp.1.2.1, fun q => by rw [eA]; exact hp.1.2.2.1 q, hp.1.2.2.2⟩, ih _ hp.2⟩
    exact key _ _ x2
  have M1 : MS P S n1 A1 1 [] u 0 [] nl (wr P S (upd n1 20 (nI 1)) (uA A1 9 1 (0 : Int32))) := ms_begin (fun i _ j2 _ _ _ => pk_un j2) pk_us (by rw [pk_un (by decide)]; exact m3) (by rw [pk_un (by decide)]; exact m4) (by rw [pk_un (by decide)]; exact m5) (by rw [pk_un (by decide)]; exact m6)
  generalize wr P S (upd n1 20 (nI 1)) (uA A1 9 1 (0 : Int32)) = h1 at M1
  simp only [k_103_37, k_103_38, k_103_39, k_103_40, k_103_41, k_103_42, k_103_44, t90, am_cat, am_kill, Value.category, List.map_cons, List.map_nil, List.sum_cons, List.sum_nil, Option.toList_some, Option.toList_none, List.cons_append, List.nil_append, List.length_cons, List.length_nil, List.getD_cons_succ, List.getD_cons_zero, List.set_cons_succ, List.set_cons_zero, Nat.reduceAdd, Nat.reduceLT, Nat.reduceLeDiff, Nat.zero_le, Nat.zero_add, Nat.add_zero]
  have hF : (outT D R τ u).1 = sx 33 → sfx τ = [] := by
    intro q
    unfold sfx
    have key : ∀ c, c ∈ sgl → c ≠ 84 → τ.1 = 0 → τ.2.1 = c → False := by
      intro c c1 c2 c3 c4
      have e : outT D R τ u = litS D c u := by
        unfold outT
        rw [if_neg (fun z => by rw [z.2] at c4; subst c4; exact absurd c1 (by decide)), litT_eq, c3]
        show litO D R (lev D R 4) τ u = _
        unfold litO
        rw [if_neg (fun z => by rw [z] at c4; subst c4; exact absurd c1 (by decide)), c4]
      rw [e] at q
      exact litS_ne c1 (fun z => absurd z c2) q
    by_cases c70 : τ.1 = 0 ∧ τ.2.1 = 70
    · exact absurd (key 70 (by decide) (by decide) c70.1 c70.2) id
    · rw [if_neg c70]
      by_cases c68 : τ.1 = 0 ∧ τ.2.1 = 68
      · exact absurd (key 68 (by decide) (by decide) c68.1 c68.2) id
      · rw [if_neg c68]
        rfl
  have st2 : ∀ (h3 : AH) (tp : List Int32) (nl3 yes nn : Int32) (o4 : Option Value), (nn = if (outT D R τ u).1 = sx 33 ∧ ¬ (τ.1 = 0 ∧ τ.2.1 = 90) ∧ ¬ (τ.1 = 0 ∧ τ.2.1 = 86) then 1 else 0) → ((τ.1 = 0 ∧ τ.2.1 = 90) → yes = if (outT D R τ u).1 = sx 30 then 1 else 0) → (¬ (τ.1 = 0 ∧ τ.2.1 = 90) → ¬ (τ.1 = 0 ∧ τ.2.1 = 86) → tp = (outT D R τ u).1) → (∀ c ∈ tp, chr c) → tp.length < 2 ^ 25 → MS P S n1 A1 1 tp (outT D R τ u).2 0 [] nl3 h3 → wp (d + 14) 103 89 [some (.ref 135), some (.int (A 1 200)), some (.int nn), some (.int yes), o4] [] h3 Q := by
    intro h3 tp nl3 yes nn o4 hn hy hp hcp hlp M3
    obtain ⟨n2, A2, hh, p1, p2, p3, p4, p5, p6, p7, p8, p9, p10, p11⟩ := id M3
    subst hh
    simp only [k_103_89, k_103_89N, k_103_90, k_103_94, k_103_94N, k_103_98, k_103_99, k_103_91, k_103_95, ogw hP, hw_20 hP, fw_19 hP, hs, am_cat, am_kill, Value.category, List.map_cons, List.map_nil, List.sum_cons, List.sum_nil, Option.toList_some, Option.toList_none, List.cons_append, List.nil_append, List.length_cons, List.length_nil, List.getD_cons_succ, List.getD_cons_zero, List.set_cons_succ, List.set_cons_zero, Nat.reduceAdd, Nat.reduceLT, Nat.reduceLeDiff, Nat.zero_le, Nat.zero_add, Nat.add_zero]
    rw [i2, k_103_100 (ow_9 hP (by decide)) hs2, sw_9 hP (by decide)]
    have M4 : MS P S n2 A2 2 [] (outT D R τ u).2 0 [] nl3 (wr P S (upd n2 20 (nI 2)) (uA A2 9 2 (0 : Int32))) := ms_begin (fun i _ j2 _ _ _ => pk_un j2) pk_us (by rw [pk_un (by decide)]; exact p3) (by rw [pk_un (by decide)]; exact p4) (by rw [pk_un (by decide)]; exact p5) (by rw [pk_un (by decide)]; exact p6)
    have T0 : Prt A2 0 tc := ⟨by rw [(p11 0 (by decide) (by decide)).1]; exact m9, fun j c hj hc => by rw [(p11 0 (by decide) (by decide)).2 j hj]; exact m10 j c hj hc⟩
    have T1 : Prt A2 1 tp := ⟨p9, p10⟩
    refine mr_body hP tq t91 hn hy hp hF T0 T1 hc hcp (by omega) hlp M4 (fun h5 o1 o2 o3 o4 M5 => ?_)
    exact K h5 n2 A2 nl3 o1 o2 o3 o4 (fun i j1 j2 j3 j4 j5 => by rw [p1 i j1 j2 j3 j4 j5, m1 i j1 j2 j3 j4 j5]) (fun i hi => by rw [p7 i hi, m7 i hi]) M5
  have cn : ∀ c ∈ ([] : List Int32), chr c := fun c h => by simp at h
  by_cases cZ : τ.1 = 0 ∧ τ.2.1 = 90
  · have eO : outT D R τ u = ((if nx D u &&& 1 = 0 then sx 18 else sx 17), u + 1) := by
      unfold outT
      rw [if_neg (fun z => by rw [cZ.2] at z; exact absurd z.2 (by decide)), litT_eq, cZ.1]
      show litO D R (lev D R 4) τ u = _
      unfold litO
      rw [if_neg (by rw [cZ.2]; decide), cZ.2]
      rfl
    have hu' := hu
    rw [eO] at hu'
    simp only [if_pos cZ, k_103_47, k_103_47N, k_103_48, M1.ov hP, am_cat, am_kill, Value.category, List.map_cons, List.map_nil, List.sum_cons, List.sum_nil, Option.toList_some, Option.toList_none, List.cons_append, List.nil_append, List.length_cons, List.length_nil, List.getD_cons_succ, List.getD_cons_zero, List.set_cons_succ, List.set_cons_zero, Nat.reduceAdd, Nat.reduceLT, Nat.reduceLeDiff, Nat.zero_le, Nat.zero_add, Nat.add_zero]
    refine mi_next hP Xn M1 (by dsimp only at hu'; omega) (fun h2 M2 => ?_)
    obtain ⟨j, hj, ej⟩ := pk_andE (nx D u) (m := 1) 1 (by decide)
    have e1 : (nx D u &&& 1 = 1) ↔ ¬ (nx D u &&& 1 = 0) := by
      rw [ej]
      have a1 : (nI j = 1) ↔ j = 1 := nI_eq (b := 1) (by omega) (by omega)
      have a0 : (nI j = 0) ↔ j = 0 := nI_eq (b := 0) (by omega) (by omega)
      rw [a1, a0]
      omega
    simp only [k_103_51, k_103_52, k_103_53, k_103_54, e1, am_cat, am_kill, Value.category, List.map_cons, List.map_nil, List.sum_cons, List.sum_nil, Option.toList_some, Option.toList_none, List.cons_append, List.nil_append, List.length_cons, List.length_nil, List.getD_cons_succ, List.getD_cons_zero, List.set_cons_succ, List.set_cons_zero, Nat.reduceAdd, Nat.reduceLT, Nat.reduceLeDiff, Nat.zero_le, Nat.zero_add, Nat.add_zero]
    have M2' : MS P S n1 A1 1 [] (outT D R τ u).2 0 [] nl h2 := by rw [eO]; exact M2
    by_cases c1 : nx D u &&& 1 = 0
    · rw [if_neg (fun z => z c1)]
      simp only [k_103_61, k_103_62, k_103_63, am_cat, am_kill, Value.category, List.map_cons, List.map_nil, List.sum_cons, List.sum_nil, Option.toList_some, Option.toList_none, List.cons_append, List.nil_append, List.length_cons, List.length_nil, List.getD_cons_succ, List.getD_cons_zero, List.set_cons_succ, List.set_cons_zero, Nat.reduceAdd, Nat.reduceLT, Nat.reduceLeDiff, Nat.zero_le, Nat.zero_add, Nat.add_zero]
      refine st2 h2 [] nl 0 0 none (by rw [if_neg (fun z => z.2.1 cZ)]) (fun _ => by rw [eO]; dsimp only; rw [if_pos c1, if_neg (by decide)]) (fun q => absurd cZ q) cn (by decide) M2'
    · rw [if_pos c1]
      simp only [k_103_57, k_103_58, k_103_62, k_103_63, am_cat, am_kill, Value.category, List.map_cons, List.map_nil, List.sum_cons, List.sum_nil, Option.toList_some, Option.toList_none, List.cons_append, List.nil_append, List.length_cons, List.length_nil, List.getD_cons_succ, List.getD_cons_zero, List.set_cons_succ, List.set_cons_zero, Nat.reduceAdd, Nat.reduceLT, Nat.reduceLeDiff, Nat.zero_le, Nat.zero_add, Nat.add_zero]
      refine st2 h2 [] nl 1 0 none (by rw [if_neg (fun z => z.2.1 cZ)]) (fun _ => by rw [eO]; dsimp only; rw [if_neg c1, if_pos (show sx 17 = sx 30 from rfl)]) (fun q => absurd cZ q) cn (by decide) M2'
  simp only [if_neg cZ, k_103_66, k_103_67, k_103_69, t86, am_cat, am_kill, Value.category, List.map_cons, List.map_nil, List.sum_cons, List.sum_nil, Option.toList_some, Option.toList_none, List.cons_append, List.nil_append, List.length_cons, List.length_nil, List.getD_cons_succ, List.getD_cons_zero, List.set_cons_succ, List.set_cons_zero, Nat.reduceAdd, Nat.reduceLT, Nat.reduceLeDiff, Nat.zero_le, Nat.zero_add, Nat.add_zero]
  by_cases cV : τ.1 = 0 ∧ τ.2.1 = 86
  · have eO : outT D R τ u = ([], u) := by
      unfold outT
      rw [if_pos cV]
    simp only [if_pos cV]
    exact st2 h1 [] nl 0 0 none (by rw [if_neg (fun z => z.2.2 cV)]) (fun q => absurd q cZ) (fun _ q => absurd cV q) cn (by decide) (by rw [eO]; exact M1)
  · have hτ1 := hτ.elim id (fun q => absurd (by rw [q.1]; exact ⟨rfl, rfl⟩) cV)
    have eO : outT D R τ u = LT D R 4 τ τ.1 false u := by
      unfold outT
      rw [if_neg cV, litT_eq]
    have T1 : At A1 200 τ.1 τ.2.1 τ.2.2 := by
      have eA : A1 1 = A 1 := m7 1 (by decide)
      exact ⟨fun i hi => by rw [eA]; exact hτ1.2.1 i hi, by rw [eA]; exact hτ1.2.2.1, fun q => by rw [eA]; exact hτ1.2.2.2.1 q, hτ1.2.2.2.2⟩
    have V := val_all (P := P) (S := S) (n0 := n1) (A0 := A1) (k := 1) (D := D) (R := R) (m := d + 1) hP (by decide) Xn XRn 4 (by decide) τ.1 hτ1.1.1
    simp only [if_neg cV, k_103_72, k_103_72N, k_103_73, k_103_76, k_103_77, M1.ov hP, am_cat, am_kill, Value.category, List.map_cons, List.map_nil, List.sum_cons, List.sum_nil, Option.toList_some, Option.toList_none, List.cons_append, List.nil_append, List.length_cons, List.length_nil, List.getD_cons_succ, List.getD_cons_zero, List.set_cons_succ, List.set_cons_zero, Nat.reduceAdd, Nat.reduceLT, Nat.reduceLeDiff, Nat.zero_le, Nat.zero_add, Nat.add_zero]
    rw [eO] at hu hll hcl
    refine V (d + 2) 200 u τ false [] [] nl h1 (fun r h2 => wp (d + 14) 103 89 [some (.ref 135), some (.int (A 1 200)), some (.int (if (LT D R 4 τ τ.1 false u).1 = sx 4 then 1 else 0)), some (.int 0), none] (r.toList ++ []) h2 Q) _ hτ1.1 (Nat.le_refl _) (fun _ => rfl) T1 M1 ?_ ?_ hu (fun h2 nl2 o2 M2 => ?_) (fun h2 Ex G => ?_)
    · have := hτ1.1.1
      rw [List.length_nil]
      omega
    · rw [List.length_nil]
      omega
    · refine wl_nil hP M2 ?_
      show wp (d + 14) 103 89 _ [] h2 Q
      refine st2 h2 _ nl2 0 _ none ?_ (fun q => absurd q cZ) (fun _ _ => ?_) hcl hll (by rw [eO]; exact M2)
      · rw [eO]
        by_cases c4 : (LT D R 4 τ τ.1 false u).1 = sx 4
        · rw [if_pos c4, if_pos ⟨c4, cZ, cV⟩]
        · rw [if_neg c4, if_neg (fun z => c4 z.1)]
      · rw [eO]
    · obtain ⟨t1, u1, ar1, w1, M2⟩ := Ex
      have e24 : okG h2 135 8 24 ∧ fld h2 135 24 = .int (if (LT D R 4 τ τ.1 false u).1 = sx 4 then 1 else 0) := by
        obtain ⟨n', A', hh, -, -, -, -, -, p6, -⟩ := id M2
        subst hh
        exact ⟨(ogw hP).mpr (by decide), by rw [fw_24 hP, p6]⟩
      simp only [k_103_80, k_103_80N, am_cat, am_kill, Value.category, List.map_cons, List.map_nil, List.sum_cons, List.sum_nil, Option.toList_some, Option.toList_none, List.cons_append, List.nil_append, List.length_cons, List.length_nil, List.getD_cons_succ, List.getD_cons_zero, List.set_cons_succ, List.set_cons_zero, Nat.reduceAdd, Nat.reduceLT, Nat.reduceLeDiff, Nat.zero_le, Nat.zero_add, Nat.add_zero]
      rw [k_103_81 e24.1, e24.2]
      simp only [k_103_84, k_103_85, k_103_85N, k_103_86, M2.ov hP, am_cat, am_kill, Value.category, List.map_cons, List.map_nil, List.sum_cons, List.sum_nil, Option.toList_some, Option.toList_none, List.cons_append, List.nil_append, List.length_cons, List.length_nil, List.getD_cons_succ, List.getD_cons_zero, List.set_cons_succ, List.set_cons_zero, Nat.reduceAdd, Nat.reduceLT, Nat.reduceLeDiff, Nat.zero_le, Nat.zero_add, Nat.add_zero]
      exact G none
theorem mi_thr (hP : P.length = 135) {nm : List Int32} {v1 : Int32} (T : ∀ (j : Nat) (c : Int32), nm[j]? = some c → A 0 j = c) (hcn : ∀ c ∈ nm, chr c) (hln : nm.length ≤ 40) (M : MS P S n A 0 tc u 0 [] nl h) (hc : ∀ c ∈ tc, chr c) (hl : tc.length < 2 ^ 25) (K : ∀ h' n2 A2 nl', (∀ i, i ≠ 4 → i ≠ 20 → i ≠ 21 → i ≠ 23 → i ≠ 24 → n2 i = n i) → (∀ i, i < 8 → A2 i = A i) → MS P S n2 A2 2 (ctM nm tc) u 0 [] nl' h' → wp (d + 14) 129 114 [some (.ref 135), some (.int v1), some (.int (nI nm.length))] [] h' Q) : wp (d + 14) 129 38 [some (.ref 135), some (.int v1), some (.int (nI nm.length))] [] h Q := by
  have hs : sN ≤ 135 := by decide
  have hs2 : sN ≤ 145 := by decide
  have hk : 2 < 4 := by decide
  obtain ⟨n1, A1, hh, m1, m2, m3, m4, m5, m6, m7, m8, m9, m10, m11⟩ := id M
  subst hh
  have i2 : (2 : Int32) = nI 2 := rfl
  have cl := cpT_len tc
  simp only [k_129_38, k_129_38N, k_129_39, k_129_43, k_129_43N, k_129_47, k_129_48, k_129_40, k_129_44, ogw hP, hw_20 hP, fw_19 hP, hs, am_cat, am_kill, Value.category, List.map_cons, List.map_nil, List.sum_cons, List.sum_nil, Option.toList_some, Option.toList_none, List.cons_append, List.nil_append, List.length_cons, List.length_nil, List.getD_cons_succ, List.getD_cons_zero, List.set_cons_succ, List.set_cons_zero, Nat.reduceAdd, Nat.reduceLT, Nat.reduceLeDiff, Nat.zero_le, Nat.zero_add, Nat.add_zero]
  rw [i2, k_129_49 (ow_9 hP (by decide)) hs2, sw_9 hP (by decide)]
  have M1 : MS P S n1 A1 2 [] u 0 [] nl (wr P S (upd n1 20 (nI 2)) (uA A1 9 2 (0 : Int32))) := ms_begin (fun i _ j2 _ _ _ => pk_un j2) pk_us (by rw [pk_un (by decide)]; exact m3) (by rw [pk_un (by decide)]; exact m4) (by rw [pk_un (by decide)]; exact m5) (by rw [pk_un (by decide)]; exact m6)
  have T0 : Prt A1 0 tc := ⟨m9, m10⟩
  have TN : ∀ (j : Nat) (c : Int32), nm[j]? = some c → A1 0 j = c := fun j c hj => by rw [m7 0 (by decide)]; exact T j c hj
  generalize wr P S (upd n1 20 (nI 2)) (uA A1 9 2 (0 : Int32)) = h1 at M1
  simp only [k_129_50, k_129_50N, k_129_51, k_129_54, M1.ov hP, am_cat, am_kill, Value.category, List.map_cons, List.map_nil, List.sum_cons, List.sum_nil, Option.toList_some, Option.toList_none, List.cons_append, List.nil_append, List.length_cons, List.length_nil, List.getD_cons_succ, List.getD_cons_zero, List.set_cons_succ, List.set_cons_zero, Nat.reduceAdd, Nat.reduceLT, Nat.reduceLeDiff, Nat.zero_le, Nat.zero_add, Nat.add_zero]
  refine mi_wordc hP hk [116, 114, 121, 32, 123, 10, 32, 32] (by decide) M1 (by decide) (fun h2 M2 => ?_)
  simp only [k_129_57, k_129_57N, k_129_58, k_129_61, M2.ov hP, am_cat, am_kill, Value.category, List.map_cons, List.map_nil, List.sum_cons, List.sum_nil, Option.toList_some, Option.toList_none, List.cons_append, List.nil_append, List.length_cons, List.length_nil, List.getD_cons_succ, List.getD_cons_zero, List.set_cons_succ, List.set_cons_zero, Nat.reduceAdd, Nat.reduceLT, Nat.reduceLeDiff, Nat.zero_le, Nat.zero_add, Nat.add_zero]
  refine mi_wordc hP hk [32, 32] (by decide) M2 (by decide) (fun h3 M3 => ?_)
  simp only [k_129_64, k_129_64N, k_129_65, k_129_66, M3.ov hP, am_cat, am_kill, Value.category, List.map_cons, List.map_nil, List.sum_cons, List.sum_nil, Option.toList_some, Option.toList_none, List.cons_append, List.nil_append, List.length_cons, List.length_nil, List.getD_cons_succ, List.getD_cons_zero, List.set_cons_succ, List.set_cons_zero, Nat.reduceAdd, Nat.reduceLT, Nat.reduceLeDiff, Nat.zero_le, Nat.zero_add, Nat.add_zero]
  have M3' : MS P S n1 A1 2 (sx 42) u 0 [] nl h3 := M3
  have s42 := sxl 42
  refine mi_copy (q := 0) hP hk (by decide) (by decide) T0 hc (by omega) M3' (by omega) (fun h4 M4 => ?_)
  simp only [k_129_69, k_129_69N, k_129_70, k_129_73, M4.ov hP, am_cat, am_kill, Value.category, List.map_cons, List.map_nil, List.sum_cons, List.sum_nil, Option.toList_some, Option.toList_none, List.cons_append, List.nil_append, List.length_cons, List.length_nil, List.getD_cons_succ, List.getD_cons_zero, List.set_cons_succ, List.set_cons_zero, Nat.reduceAdd, Nat.reduceLT, Nat.reduceLeDiff, Nat.zero_le, Nat.zero_add, Nat.add_zero]
  refine mi_wordc hP hk [59, 10, 32, 32, 32, 32] (by decide) M4 (by rw [List.length_append]; omega) (fun h5 M5 => ?_)
  simp only [k_129_76, k_129_76N, k_129_77, k_129_80, M5.ov hP, am_cat, am_kill, Value.category, List.map_cons, List.map_nil, List.sum_cons, List.sum_nil, Option.toList_some, Option.toList_none, List.cons_append, List.nil_append, List.length_cons, List.length_nil, List.getD_cons_succ, List.getD_cons_zero, List.set_cons_succ, List.set_cons_zero, Nat.reduceAdd, Nat.reduceLT, Nat.reduceLeDiff, Nat.zero_le, Nat.zero_add, Nat.add_zero]
  refine mi_wordc hP hk [102, 97, 105, 108, 40, 34] (by decide) M5 (by simp only [List.length_append, List.length_cons, List.length_nil]; omega) (fun h6 M6 => ?_)
  simp only [k_129_83, k_129_83N, k_129_84, k_129_85, M6.ov hP, am_cat, am_kill, Value.category, List.map_cons, List.map_nil, List.sum_cons, List.sum_nil, Option.toList_some, Option.toList_none, List.cons_append, List.nil_append, List.length_cons, List.length_nil, List.getD_cons_succ, List.getD_cons_zero, List.set_cons_succ, List.set_cons_zero, Nat.reduceAdd, Nat.reduceLT, Nat.reduceLeDiff, Nat.zero_le, Nat.zero_add, Nat.add_zero]
  refine mi_name hP hk TN hcn hln M6 (by simp only [List.length_append, List.length_cons, List.length_nil]; omega) (fun h7 M7 => ?_)
  simp only [k_129_88, k_129_88N, k_129_89, k_129_92, M7.ov hP, am_cat, am_kill, Value.category, List.map_cons, List.map_nil, List.sum_cons, List.sum_nil, Option.toList_some, Option.toList_none, List.cons_append, List.nil_append, List.length_cons, List.length_nil, List.getD_cons_succ, List.getD_cons_zero, List.set_cons_succ, List.set_cons_zero, Nat.reduceAdd, Nat.reduceLT, Nat.reduceLeDiff, Nat.zero_le, Nat.zero_add, Nat.add_zero]
  refine mi_wordc hP hk [34, 41, 59, 10, 125, 32] (by decide) M7 (by simp only [List.length_append, List.length_cons, List.length_nil]; omega) (fun h8 M8 => ?_)
  simp only [k_129_95, k_129_95N, k_129_96, k_129_99, M8.ov hP, am_cat, am_kill, Value.category, List.map_cons, List.map_nil, List.sum_cons, List.sum_nil, Option.toList_some, Option.toList_none, List.cons_append, List.nil_append, List.length_cons, List.length_nil, List.getD_cons_succ, List.getD_cons_zero, List.set_cons_succ, List.set_cons_zero, Nat.reduceAdd, Nat.reduceLT, Nat.reduceLeDiff, Nat.zero_le, Nat.zero_add, Nat.add_zero]
  refine mi_wordc hP hk [99, 97, 116, 99, 104, 32, 40] (by decide) M8 (by simp only [List.length_append, List.length_cons, List.length_nil]; omega) (fun h9 M9 => ?_)
  simp only [k_129_102, k_129_102N, k_129_103, k_129_104, M9.ov hP, am_cat, am_kill, Value.category, List.map_cons, List.map_nil, List.sum_cons, List.sum_nil, Option.toList_some, Option.toList_none, List.cons_append, List.nil_append, List.length_cons, List.length_nil, List.getD_cons_succ, List.getD_cons_zero, List.set_cons_succ, List.set_cons_zero, Nat.reduceAdd, Nat.reduceLT, Nat.reduceLeDiff, Nat.zero_le, Nat.zero_add, Nat.add_zero]
  refine mi_name hP hk TN hcn hln M9 (by simp only [List.length_append, List.length_cons, List.length_nil]; omega) (fun h10 M10 => ?_)
  simp only [k_129_107, k_129_107N, k_129_108, k_129_111, M10.ov hP, am_cat, am_kill, Value.category, List.map_cons, List.map_nil, List.sum_cons, List.sum_nil, Option.toList_some, Option.toList_none, List.cons_append, List.nil_append, List.length_cons, List.length_nil, List.getD_cons_succ, List.getD_cons_zero, List.set_cons_succ, List.set_cons_zero, Nat.reduceAdd, Nat.reduceLT, Nat.reduceLeDiff, Nat.zero_le, Nat.zero_add, Nat.add_zero]
  refine mi_wordc hP hk [32, 101, 41, 32, 123, 10, 125] (by decide) M10 (by simp only [List.length_append, List.length_cons, List.length_nil]; omega) (fun h11 M11 => ?_)
  refine K h11 n1 A1 nl m1 m7 ?_
  unfold ctM
  rw [show sx 43 = [59, 10, 32, 32, 32, 32] ++ [102, 97, 105, 108, 40, 34] from rfl, show sx 44 = [34, 41, 59, 10, 125, 32] ++ [99, 97, 116, 99, 104, 32, 40] from rfl]
  simp only [List.append_assoc] at M11 ⊢
  exact M11
end MAD
