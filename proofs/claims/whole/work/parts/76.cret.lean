/-! THE PROGRAM'S TRIALS -/
theorem Fm.tr {h h1 h2 : AH} (F1 : Fm h h1) (F2 : Fm h1 h2) : Fm h h2 := ⟨Nat.le_trans F1.1 F2.1, fun b hb hq => by rw [F2.2 b (Nat.lt_of_lt_of_le hb F1.1) hq]; exact F1.2 b hb hq⟩
theorem outZ {D : List Int32} {R : List (List Ty)} {τ : Ty} {u : Nat} (h : (τ.1 = 0 ∧ τ.2.1 = 86) ∨ (τ.1 = 0 ∧ τ.2.1 = 90)) : (outT D R τ u).1.length ≤ 300 := by
  unfold outT
  rcases h with h | h
  · rw [if_pos h]
    exact Nat.zero_le _
  · rw [if_neg (fun z => by rw [h.2] at z; exact absurd z.2 (by decide)), litT_eq, h.1]
    show (litO D R (lev D R 4) τ u).1.length ≤ 300
    unfold litO
    rw [if_neg (by rw [h.2]; decide)]
    have := litS_len D τ.2.1 u
    omega
theorem Dj.u1 {a1 a2 a3 a4 st a' n : Nat} (H : Dj a1 a2 a3 a4 st) (ha : a' = a1 ∨ n ≤ a') (hn : 147 ≤ n) (l2 : a2 < n) (l3 : a3 < n) (l4 : a4 < n) (l5 : st < n) : Dj a' a2 a3 a4 st := by
  rcases ha with rfl | ha
  · exact H
  · obtain ⟨d1, d2, d3, d4, d5, e1, e2, e3, e4, e5, e6, e7, e8, e9, e10⟩ := H
    exact ⟨Or.inr (Nat.le_trans hn ha), d2, d3, d4, d5, Nat.ne_of_gt (Nat.lt_of_lt_of_le l2 ha), Nat.ne_of_gt (Nat.lt_of_lt_of_le l3 ha), Nat.ne_of_gt (Nat.lt_of_lt_of_le l4 ha), Nat.ne_of_gt (Nat.lt_of_lt_of_le l5 ha), e5, e6, e7, e8, e9, e10⟩
theorem Fs.u1 {a1 a2 a3 a4 st a' n b : Nat} (ha : a' = a1 ∨ n ≤ a') (hb : b < n) (hF : ¬ Fs a1 a2 a3 a4 st b) : ¬ Fs a' a2 a3 a4 st b := by
  rcases ha with rfl | ha
  · exact hF
  · intro z
    rcases z with z | z | z | z | z
    · exact absurd hb (by rw [z]; exact Nat.not_lt.mpr ha)
    · exact hF (Or.inr (Or.inl z))
    · exact hF (Or.inr (Or.inr (Or.inl z)))
    · exact hF (Or.inr (Or.inr (Or.inr (Or.inl z))))
    · exact hF (Or.inr (Or.inr (Or.inr (Or.inr (z)))))
theorem Dj.u2 {a1 a2 a3 a4 st a' n : Nat} (H : Dj a1 a2 a3 a4 st) (ha : a' = a2 ∨ n ≤ a') (hn : 147 ≤ n) (l1 : a1 < n) (l3 : a3 < n) (l4 : a4 < n) (l5 : st < n) : Dj a1 a' a3 a4 st := by
  rcases ha with rfl | ha
  · exact H
  · obtain ⟨d1, d2, d3, d4, d5, e1, e2, e3, e4, e5, e6, e7, e8, e9, e10⟩ := H
    exact ⟨d1, Or.inr (Nat.le_trans hn ha), d3, d4, d5, Nat.ne_of_lt (Nat.lt_of_lt_of_le l1 ha), e2, e3, e4, Nat.ne_of_gt (Nat.lt_of_lt_of_le l3 ha), Nat.ne_of_gt (Nat.lt_of_lt_of_le l4 ha), Nat.ne_of_gt (Nat.lt_of_lt_of_le l5 ha), e8, e9, e10⟩
theorem Fs.u2 {a1 a2 a3 a4 st a' n b : Nat} (ha : a' = a2 ∨ n ≤ a') (hb : b < n) (hF : ¬ Fs a1 a2 a3 a4 st b) : ¬ Fs a1 a' a3 a4 st b := by
  rcases ha with rfl | ha
  · exact hF
  · intro z
    rcases z with z | z | z | z | z
    · exact hF (Or.inl z)
    · exact absurd hb (by rw [z]; exact Nat.not_lt.mpr ha)
    · exact hF (Or.inr (Or.inr (Or.inl z)))
    · exact hF (Or.inr (Or.inr (Or.inr (Or.inl z))))
    · exact hF (Or.inr (Or.inr (Or.inr (Or.inr (z)))))
theorem Dj.u3 {a1 a2 a3 a4 st a' n : Nat} (H : Dj a1 a2 a3 a4 st) (ha : a' = a3 ∨ n ≤ a') (hn : 147 ≤ n) (l1 : a1 < n) (l2 : a2 < n) (l4 : a4 < n) (l5 : st < n) : Dj a1 a2 a' a4 st := by
  rcases ha with rfl | ha
  · exact H
  · obtain ⟨d1, d2, d3, d4, d5, e1, e2, e3, e4, e5, e6, e7, e8, e9, e10⟩ := H
    exact ⟨d1, d2, Or.inr (Nat.le_trans hn ha), d4, d5, e1, Nat.ne_of_lt (Nat.lt_of_lt_of_le l1 ha), e3, e4, Nat.ne_of_lt (Nat.lt_of_lt_of_le l2 ha), e6, e7, Nat.ne_of_gt (Nat.lt_of_lt_of_le l4 ha), Nat.ne_of_gt (Nat.lt_of_lt_of_le l5 ha), e10⟩
theorem Fs.u3 {a1 a2 a3 a4 st a' n b : Nat} (ha : a' = a3 ∨ n ≤ a') (hb : b < n) (hF : ¬ Fs a1 a2 a3 a4 st b) : ¬ Fs a1 a2 a' a4 st b := by
  rcases ha with rfl | ha
  · exact hF
  · intro z
    rcases z with z | z | z | z | z
    · exact hF (Or.inl z)
    · exact hF (Or.inr (Or.inl z))
    · exact absurd hb (by rw [z]; exact Nat.not_lt.mpr ha)
    · exact hF (Or.inr (Or.inr (Or.inr (Or.inl z))))
    · exact hF (Or.inr (Or.inr (Or.inr (Or.inr (z)))))
theorem Dj.u4 {a1 a2 a3 a4 st a' n : Nat} (H : Dj a1 a2 a3 a4 st) (ha : a' = a4 ∨ n ≤ a') (hn : 147 ≤ n) (l1 : a1 < n) (l2 : a2 < n) (l3 : a3 < n) (l5 : st < n) : Dj a1 a2 a3 a' st := by
  rcases ha with rfl | ha
  · exact H
  · obtain ⟨d1, d2, d3, d4, d5, e1, e2, e3, e4, e5, e6, e7, e8, e9, e10⟩ := H
    exact ⟨d1, d2, d3, Or.inr (Nat.le_trans hn ha), d5, e1, e2, Nat.ne_of_lt (Nat.lt_of_lt_of_le l1 ha), e4, e5, Nat.ne_of_lt (Nat.lt_of_lt_of_le l2 ha), e7, Nat.ne_of_lt (Nat.lt_of_lt_of_le l3 ha), e9, Nat.ne_of_gt (Nat.lt_of_lt_of_le l5 ha)⟩
theorem Fs.u4 {a1 a2 a3 a4 st a' n b : Nat} (ha : a' = a4 ∨ n ≤ a') (hb : b < n) (hF : ¬ Fs a1 a2 a3 a4 st b) : ¬ Fs a1 a2 a3 a' st b := by
  rcases ha with rfl | ha
  · exact hF
  · intro z
    rcases z with z | z | z | z | z
    · exact hF (Or.inl z)
    · exact hF (Or.inr (Or.inl z))
    · exact hF (Or.inr (Or.inr (Or.inl z)))
    · exact absurd hb (by rw [z]; exact Nat.not_lt.mpr ha)
    · exact hF (Or.inr (Or.inr (Or.inr (Or.inr (z)))))
theorem Dj.u5 {a1 a2 a3 a4 st a' n : Nat} (H : Dj a1 a2 a3 a4 st) (ha : a' = st ∨ n ≤ a') (hn : 147 ≤ n) (l1 : a1 < n) (l2 : a2 < n) (l3 : a3 < n) (l4 : a4 < n) : Dj a1 a2 a3 a4 a' := by
  rcases ha with rfl | ha
  · exact H
  · obtain ⟨d1, d2, d3, d4, d5, e1, e2, e3, e4, e5, e6, e7, e8, e9, e10⟩ := H
    exact ⟨d1, d2, d3, d4, Or.inr (Nat.le_trans hn ha), e1, e2, e3, Nat.ne_of_lt (Nat.lt_of_lt_of_le l1 ha), e5, e6, Nat.ne_of_lt (Nat.lt_of_lt_of_le l2 ha), e8, Nat.ne_of_lt (Nat.lt_of_lt_of_le l3 ha), Nat.ne_of_lt (Nat.lt_of_lt_of_le l4 ha)⟩
theorem Fs.u5 {a1 a2 a3 a4 st a' n b : Nat} (ha : a' = st ∨ n ≤ a') (hb : b < n) (hF : ¬ Fs a1 a2 a3 a4 st b) : ¬ Fs a1 a2 a3 a4 a' b := by
  rcases ha with rfl | ha
  · exact hF
  · intro z
    rcases z with z | z | z | z | z
    · exact hF (Or.inl z)
    · exact hF (Or.inr (Or.inl z))
    · exact hF (Or.inr (Or.inr (Or.inl z)))
    · exact hF (Or.inr (Or.inr (Or.inr (Or.inl z))))
    · exact absurd hb (by rw [z]; exact Nat.not_lt.mpr ha)
def CB (B k : Nat) (h : AH) (W : Nat) (L : List Int32) (R : List (List Ty)) (τ : Ty) (D : List Int32) (T : List Tst1) (tk : Int32) (Ls : List (List Int32)) (br ra rt a1 a2 a3 a4 st u : Nat) (c0 c1 c2 c3 c4 vs ss : List Value) (t1 t2 t3 : List Int32) : Prop := X105 h ra rt tk ∧ (Chs h 106 107 L c0 ∧ c0.length = 40) ∧ Tys h R τ ra rt ∧ Dat h 112 113 D u vs ∧ (Chs h 123 a1 t1 c1 ∧ Chs h 125 a2 t2 c2 ∧ Chs h 127 a3 t3 c3) ∧ Sui h T (Fs a1 a2 a3 a4 st) ∧ Txc h W Ls br a4 st c4 ss ∧ Dj a1 a2 a3 a4 st ∧ Cst B k h c1.length c2.length c3.length c4.length ss.length
theorem num3 {x p q a : Nat} (ha : a = p ∨ 147 ≤ a) (n1 : 112 ≠ q) (b : Nat) (hb : b < 147) (h1 : b ≠ 112) (h2 : b ≠ q) (h3 : b ≠ p) : ¬ (b = 112 ∨ b = q ∨ b = a) := by
  intro z
  rcases z with z | z | z
  · exact h1 z
  · exact h2 z
  · rcases ha with r | r
    · exact h3 (z.trans r)
    · omega
theorem big3 {p q a b : Nat} (hb : b = p ∨ 147 ≤ b) (p1 : p ≠ 112) (p2 : p ≠ q) (q1 : q < 147) (n : b ≠ a) : ¬ (b = 112 ∨ b = q ∨ b = a) := by
  intro z
  rcases z with z | z | z
  · omega
  · omega
  · exact n z
section RT
variable {B k d W : Nat} {h h' : AH} {Q : Option Value → AH → Prop} {L : List Int32} {R : List (List Ty)} {τ : Ty} {D : List Int32} {T : List Tst1} {tk : Int32} {Ls : List (List Int32)} {br ra rt a1 a2 a3 a4 st u : Nat} {c0 c1 c2 c3 c4 vs ss : List Value} {t1 t2 t3 : List Int32}
theorem CB.ci (C : CB B k h W L R τ D T tk Ls br ra rt a1 a2 a3 a4 st u c0 c1 c2 c3 c4 vs ss t1 t2 t3) : CI B (W, L, R, τ, D, T, tk, Ls, br) k h := by
  obtain ⟨q1, q2, q3, q4, ⟨b1, b2, b3⟩, q6, q7, q8, q9⟩ := C
  exact ⟨ra, rt, a1, a2, a3, a4, st, u, c0, c1, c2, c3, c4, vs, ss, q1, q2, q3, q4, ⟨⟨t1, b1⟩, ⟨t2, b2⟩, t3, b3⟩, q6, q7, q8, q9⟩
theorem CB.lt (C : CB B k h W L R τ D T tk Ls br ra rt a1 a2 a3 a4 st u c0 c1 c2 c3 c4 vs ss t1 t2 t3) : a1 < h.length ∧ a2 < h.length ∧ a3 < h.length ∧ a4 < h.length ∧ st < h.length ∧ 147 ≤ h.length := by
  obtain ⟨q1, q2, q3, q4, ⟨b1, b2, b3⟩, q6, q7, q8, q9⟩ := C
  exact ⟨lt_of_get b1.2.1, lt_of_get b2.2.1, lt_of_get b3.2.1, lt_of_get q7.2.1.2.1, lt_of_get q7.2.2.1, q9.2.2.2.2.2.2.2⟩
theorem CB.fs (C : CB B k h W L R τ D T tk Ls br ra rt a1 a2 a3 a4 st u c0 c1 c2 c3 c4 vs ss t1 t2 t3) : ∀ b, Fs a1 a2 a3 a4 st b → b < h.length := by
  obtain ⟨l1, l2, l3, l4, l5, -⟩ := C.lt
  intro b z
  rcases z with z | z | z | z | z
  · rw [z]; exact l1
  · rw [z]; exact l2
  · rw [z]; exact l3
  · rw [z]; exact l4
  · rw [z]; exact l5
theorem CB.s1 {a' u' : Nat} {c' : List Value} {t' : List Int32} (C : CB B k h W L R τ D T tk Ls br ra rt a1 a2 a3 a4 st u c0 c1 c2 c3 c4 vs ss t1 t2 t3) (G : Bgo h h' 123 a1 c1 a' t' c' 14000) (D' : Dat h' 112 113 D u' vs) (F : Fr (fun b => b = 112 ∨ b = 123 ∨ b = a1) h h') : CB B k h' W L R τ D T tk Ls br ra rt a' a2 a3 a4 st u' c0 c' c2 c3 c4 vs ss t' t2 t3 ∧ Fm h h' := by
  obtain ⟨l1, l2, l3, l4, l5, l6⟩ := C.lt
  obtain ⟨q1, ⟨q2, q2'⟩, q3, q4, ⟨b1, b2, b3⟩, q6, q7, q8, q9⟩ := C
  obtain ⟨d1, d2, d3, d4, d5, e1, e2, e3, e4, e5, e6, e7, e8, e9, e10⟩ := id q8
  have hN := sN5
  have nu := num3 (x := 0) (q := 123) d1 (by decide)
  have kp := F.kp (fun b z => by
    rcases z with rfl | rfl | rfl
    · exact ⟨by rw [hN]; decide, _, q4.1, kn_d⟩
    · exact ⟨by rw [hN]; decide, _, b1.1, kn_c⟩
    · exact ⟨by rw [hN]; clear q8 e1 e2 e3 e4 e5 e6 e7 e8 e9 e10; rcases d1 with z | z <;> omega, _, b1.2.1, kn_a⟩)
  obtain ⟨g1, g2, g3, g4, g5, g6⟩ := G
  refine ⟨⟨F.get q1 (nu 105 (by decide) (by decide) (by decide) (by decide)), ⟨q2.fr F (nu 106 (by decide) (by decide) (by decide) (by decide)) (nu 107 (by decide) (by decide) (by decide) (by decide)), q2'⟩, q3.fr F kp (nu 111 (by decide) (by decide) (by decide) (by decide)) (nu 114 (by decide) (by decide) (by decide) (by decide)), D', ⟨g1, b2.fr F (nu 125 (by decide) (by decide) (by decide) (by decide)) (big3 d2 (by decide) (by decide) (by decide) e1.symm), b3.fr F (nu 127 (by decide) (by decide) (by decide) (by decide)) (big3 d3 (by decide) (by decide) (by decide) e2.symm)⟩, q6.fr F (nu 129 (by decide) (by decide) (by decide) (by decide)) (nu 130 (by decide) (by decide) (by decide) (by decide)) (fun b x1 x2 x3 => ⟨fun z => ?_, Fs.u1 g2 x2 x3⟩), q7.fr F (nu 131 (by decide) (by decide) (by decide) (by decide)) (nu 132 (by decide) (by decide) (by decide) (by decide)) (big3 d4 (by decide) (by decide) (by decide) e3.symm) (big3 d5 (by decide) (by decide) (by decide) e4.symm), Dj.u1 q8 g2 l6 l2 l3 l4 l5, ?_⟩, F.fm (fun b z => ?_)⟩
  · rcases z with z | z | z
    · omega
    · omega
    · exact x3 (Or.inl z)
  · clear q8 d1 d2 d3 d4 d5 e1 e2 e3 e4 e5 e6 e7 e8 e9 e10 nu kp q1 q2 q3 q4 q6 q7 g1 g2 l1 l2 l3 l4 l5
    obtain ⟨f1, f2, f3, f4, f5, f6, f7, f8⟩ := q9
    have := F.1
    exact ⟨by omega, by omega, by omega, by omega, by omega, f6, f7, by omega⟩
  · clear q8 e1 e2 e3 e4 e5 e6 e7 e8 e9 e10 nu kp q1 q2 q3 q4 q6 q7 g1 g2 l1 l2 l3 l4 l5
    rcases z with z | z | z
    · omega
    · omega
    · rcases d1 with y | y <;> omega
theorem CB.s2 {a' u' : Nat} {c' : List Value} {t' : List Int32} (C : CB B k h W L R τ D T tk Ls br ra rt a1 a2 a3 a4 st u c0 c1 c2 c3 c4 vs ss t1 t2 t3) (G : Bgo h h' 125 a2 c2 a' t' c' 14000) (D' : Dat h' 112 113 D u' vs) (F : Fr (fun b => b = 112 ∨ b = 125 ∨ b = a2) h h') : CB B k h' W L R τ D T tk Ls br ra rt a1 a' a3 a4 st u' c0 c1 c' c3 c4 vs ss t1 t' t3 ∧ Fm h h' := by
  obtain ⟨l1, l2, l3, l4, l5, l6⟩ := C.lt
  obtain ⟨q1, ⟨q2, q2'⟩, q3, q4, ⟨b1, b2, b3⟩, q6, q7, q8, q9⟩ := C
  obtain ⟨d1, d2, d3, d4, d5, e1, e2, e3, e4, e5, e6, e7, e8, e9, e10⟩ := id q8
  have hN := sN5
  have nu := num3 (x := 0) (q := 125) d2 (by decide)
  have kp := F.kp (fun b z => by
    rcases z with rfl | rfl | rfl
    · exact ⟨by rw [hN]; decide, _, q4.1, kn_d⟩
    · exact ⟨by rw [hN]; decide, _, b2.1, kn_c⟩
    · exact ⟨by rw [hN]; clear q8 e1 e2 e3 e4 e5 e6 e7 e8 e9 e10; rcases d2 with z | z <;> omega, _, b2.2.1, kn_a⟩)
  obtain ⟨g1, g2, g3, g4, g5, g6⟩ := G
  refine ⟨⟨F.get q1 (nu 105 (by decide) (by decide) (by decide) (by decide)), ⟨q2.fr F (nu 106 (by decide) (by decide) (by decide) (by decide)) (nu 107 (by decide) (by decide) (by decide) (by decide)), q2'⟩, q3.fr F kp (nu 111 (by decide) (by decide) (by decide) (by decide)) (nu 114 (by decide) (by decide) (by decide) (by decide)), D', ⟨b1.fr F (nu 123 (by decide) (by decide) (by decide) (by decide)) (big3 d1 (by decide) (by decide) (by decide) e1), g1, b3.fr F (nu 127 (by decide) (by decide) (by decide) (by decide)) (big3 d3 (by decide) (by decide) (by decide) e5.symm)⟩, q6.fr F (nu 129 (by decide) (by decide) (by decide) (by decide)) (nu 130 (by decide) (by decide) (by decide) (by decide)) (fun b x1 x2 x3 => ⟨fun z => ?_, Fs.u2 g2 x2 x3⟩), q7.fr F (nu 131 (by decide) (by decide) (by decide) (by decide)) (nu 132 (by decide) (by decide) (by decide) (by decide)) (big3 d4 (by decide) (by decide) (by decide) e6.symm) (big3 d5 (by decide) (by decide) (by decide) e7.symm), Dj.u2 q8 g2 l6 l1 l3 l4 l5, ?_⟩, F.fm (fun b z => ?_)⟩
  · rcases z with z | z | z
    · omega
    · omega
    · exact x3 (Or.inr (Or.inl z))
  · clear q8 d1 d2 d3 d4 d5 e1 e2 e3 e4 e5 e6 e7 e8 e9 e10 nu kp q1 q2 q3 q4 q6 q7 g1 g2 l1 l2 l3 l4 l5
    obtain ⟨f1, f2, f3, f4, f5, f6, f7, f8⟩ := q9
    have := F.1
    exact ⟨by omega, by omega, by omega, by omega, by omega, f6, f7, by omega⟩
  · clear q8 e1 e2 e3 e4 e5 e6 e7 e8 e9 e10 nu kp q1 q2 q3 q4 q6 q7 g1 g2 l1 l2 l3 l4 l5
    rcases z with z | z | z
    · omega
    · omega
    · rcases d2 with y | y <;> omega
theorem CB.s3 {a' u' : Nat} {c' : List Value} {t' : List Int32} (C : CB B k h W L R τ D T tk Ls br ra rt a1 a2 a3 a4 st u c0 c1 c2 c3 c4 vs ss t1 t2 t3) (G : Bgo h h' 127 a3 c3 a' t' c' 40000) (D' : Dat h' 112 113 D u' vs) (F : Fr (fun b => b = 112 ∨ b = 127 ∨ b = a3) h h') : CB B k h' W L R τ D T tk Ls br ra rt a1 a2 a' a4 st u' c0 c1 c2 c' c4 vs ss t1 t2 t' ∧ Fm h h' := by
  obtain ⟨l1, l2, l3, l4, l5, l6⟩ := C.lt
  obtain ⟨q1, ⟨q2, q2'⟩, q3, q4, ⟨b1, b2, b3⟩, q6, q7, q8, q9⟩ := C
  obtain ⟨d1, d2, d3, d4, d5, e1, e2, e3, e4, e5, e6, e7, e8, e9, e10⟩ := id q8
  have hN := sN5
  have nu := num3 (x := 0) (q := 127) d3 (by decide)
  have kp := F.kp (fun b z => by
    rcases z with rfl | rfl | rfl
    · exact ⟨by rw [hN]; decide, _, q4.1, kn_d⟩
    · exact ⟨by rw [hN]; decide, _, b3.1, kn_c⟩
    · exact ⟨by rw [hN]; clear q8 e1 e2 e3 e4 e5 e6 e7 e8 e9 e10; rcases d3 with z | z <;> omega, _, b3.2.1, kn_a⟩)
  obtain ⟨g1, g2, g3, g4, g5, g6⟩ := G
  refine ⟨⟨F.get q1 (nu 105 (by decide) (by decide) (by decide) (by decide)), ⟨q2.fr F (nu 106 (by decide) (by decide) (by decide) (by decide)) (nu 107 (by decide) (by decide) (by decide) (by decide)), q2'⟩, q3.fr F kp (nu 111 (by decide) (by decide) (by decide) (by decide)) (nu 114 (by decide) (by decide) (by decide) (by decide)), D', ⟨b1.fr F (nu 123 (by decide) (by decide) (by decide) (by decide)) (big3 d1 (by decide) (by decide) (by decide) e2), b2.fr F (nu 125 (by decide) (by decide) (by decide) (by decide)) (big3 d2 (by decide) (by decide) (by decide) e5), g1⟩, q6.fr F (nu 129 (by decide) (by decide) (by decide) (by decide)) (nu 130 (by decide) (by decide) (by decide) (by decide)) (fun b x1 x2 x3 => ⟨fun z => ?_, Fs.u3 g2 x2 x3⟩), q7.fr F (nu 131 (by decide) (by decide) (by decide) (by decide)) (nu 132 (by decide) (by decide) (by decide) (by decide)) (big3 d4 (by decide) (by decide) (by decide) e8.symm) (big3 d5 (by decide) (by decide) (by decide) e9.symm), Dj.u3 q8 g2 l6 l1 l2 l4 l5, ?_⟩, F.fm (fun b z => ?_)⟩
  · rcases z with z | z | z
    · omega
    · omega
    · exact x3 (Or.inr (Or.inr (Or.inl z)))
  · clear q8 d1 d2 d3 d4 d5 e1 e2 e3 e4 e5 e6 e7 e8 e9 e10 nu kp q1 q2 q3 q4 q6 q7 g1 g2 l1 l2 l3 l4 l5
    obtain ⟨f1, f2, f3, f4, f5, f6, f7, f8⟩ := q9
    have := F.1
    exact ⟨by omega, by omega, by omega, by omega, by omega, f6, f7, by omega⟩
  · clear q8 e1 e2 e3 e4 e5 e6 e7 e8 e9 e10 nu kp q1 q2 q3 q4 q6 q7 g1 g2 l1 l2 l3 l4 l5
    rcases z with z | z | z
    · omega
    · omega
    · rcases d3 with y | y <;> omega
theorem CB.s4 {tk' : Int32} (C : CB B k h W L R τ D T tk Ls br ra rt a1 a2 a3 a4 st u c0 c1 c2 c3 c4 vs ss t1 t2 t3) : CB B k (h.set 105 (.inr 0, [.ref 106, .ref ra, .ref rt, .ref 111, .ref 123, .ref 125, .ref 127, .ref 129, .ref 131, .int tk'])) W L R τ D T tk' Ls br ra rt a1 a2 a3 a4 st u c0 c1 c2 c3 c4 vs ss t1 t2 t3 ∧ Fm h (h.set 105 (.inr 0, [.ref 106, .ref ra, .ref rt, .ref 111, .ref 123, .ref 125, .ref 127, .ref 129, .ref 131, .int tk'])) := by
  obtain ⟨q1, ⟨q2, q2'⟩, q3, q4, ⟨b1, b2, b3⟩, q6, q7, q8, q9⟩ := C
  have X : h[105]? = some (.inr 0, [.ref 106, .ref ra, .ref rt, .ref 111, .ref 123, .ref 125, .ref 127, .ref 129, .ref 131, .int tk]) := q1
  have F : Fr (fun b => b = 105) h (h.set 105 (.inr 0, [.ref 106, .ref ra, .ref rt, .ref 111, .ref 123, .ref 125, .ref 127, .ref 129, .ref 131, .int tk'])) := Fr.set
  have X' := get_set_eq (x := ((.inr 0, [.ref 106, .ref ra, .ref rt, .ref 111, .ref 123, .ref 125, .ref 127, .ref 129, .ref 131, .int tk']) : AC)) X
  have z1 := sz_set (vs' := [.ref 106, .ref ra, .ref rt, .ref 111, .ref 123, .ref 125, .ref 127, .ref 129, .ref 131, .int tk']) X rfl
  have z2 : (h.set 105 (.inr 0, [.ref 106, .ref ra, .ref rt, .ref 111, .ref 123, .ref 125, .ref 127, .ref 129, .ref 131, .int tk'])).length = h.length := List.length_set ..
  generalize h.set 105 (.inr 0, [.ref 106, .ref ra, .ref rt, .ref 111, .ref 123, .ref 125, .ref 127, .ref 129, .ref 131, .int tk']) = h' at F X' z1 z2
  obtain ⟨d1, d2, d3, d4, d5, -⟩ := id q8
  have hN := sN5
  have nm : ∀ {p a : Nat}, a = p ∨ 147 ≤ a → p ≠ 105 → ¬ a = 105 := fun {p a} x y => by omega
  have kp := F.kp (fun b z => by
    rcases z with rfl
    exact ⟨by rw [hN]; decide, _, X, kn_t⟩)
  refine ⟨⟨X', ⟨q2.fr F (by decide) (by decide), q2'⟩, q3.fr F kp (by decide) (by decide), q4.fr F (by decide) (by decide), ⟨b1.fr F (by decide) (nm d1 (by decide)), b2.fr F (by decide) (nm d2 (by decide)), b3.fr F (by decide) (nm d3 (by decide))⟩, q6.fr F (by decide) (by decide) (fun b x1 _ x3 => ⟨?_, x3⟩), q7.fr F (by decide) (by decide) (nm d4 (by decide)) (nm d5 (by decide)), q8, q9.le (n := 0) (m := 0) (Nat.le_of_eq z2) (Nat.le_of_eq z1) (by clear d1 d2 d3 d4 d5; omega) (by clear d1 d2 d3 d4 d5; omega) (Nat.le_of_eq z2.symm)⟩, F.fm (fun b z => ?_)⟩
  · clear d1 d2 d3 d4 d5
    intro z
    have z : b = 105 := z
    omega
  · clear d1 d2 d3 d4 d5
    have z : b = 105 := z
    omega
theorem CB.s6 {L' : List Int32} {c0' : List Value} (C : CB B k h W L R τ D T tk Ls br ra rt a1 a2 a3 a4 st u c0 c1 c2 c3 c4 vs ss t1 t2 t3) (G : Chs h' 106 107 L' c0') (G' : c0'.length = 40) (z1 : am_sz h' = am_sz h) (z2 : h'.length = h.length) (F : Fr (fun b => b = 106) h h') : CB B k h' W L' R τ D T tk Ls br ra rt a1 a2 a3 a4 st u c0' c1 c2 c3 c4 vs ss t1 t2 t3 ∧ Fm h h' := by
  obtain ⟨q1, ⟨q2, q2'⟩, q3, q4, ⟨b1, b2, b3⟩, q6, q7, q8, q9⟩ := C
  obtain ⟨d1, d2, d3, d4, d5, -⟩ := id q8
  have hN := sN5
  have nm : ∀ {p a : Nat}, a = p ∨ 147 ≤ a → p ≠ 106 → ¬ a = 106 := fun {p a} x y => by omega
  have kp := F.kp (fun b z => by
    rcases z with rfl
    exact ⟨by rw [hN]; decide, _, q2.1, kn_c⟩)
  refine ⟨⟨F.get q1 (by decide), ⟨G, G'⟩, q3.fr F kp (by decide) (by decide), q4.fr F (by decide) (by decide), ⟨b1.fr F (by decide) (nm d1 (by decide)), b2.fr F (by decide) (nm d2 (by decide)), b3.fr F (by decide) (nm d3 (by decide))⟩, q6.fr F (by decide) (by decide) (fun b x1 _ x3 => ⟨?_, x3⟩), q7.fr F (by decide) (by decide) (nm d4 (by decide)) (nm d5 (by decide)), q8, q9.le (n := 0) (m := 0) (Nat.le_of_eq z2) (Nat.le_of_eq z1) (by clear d1 d2 d3 d4 d5; omega) (by clear d1 d2 d3 d4 d5; omega) (Nat.le_of_eq z2.symm)⟩, F.fm (fun b z => ?_)⟩
  · clear d1 d2 d3 d4 d5
    intro z
    have z : b = 106 := z
    omega
  · clear d1 d2 d3 d4 d5
    have z : b = 106 := z
    omega
theorem CB.s5 {T' : List Tst1} (C : CB B k h W L R τ D T tk Ls br ra rt a1 a2 a3 a4 st u c0 c1 c2 c3 c4 vs ss t1 t2 t3) (G : Sui h' T' (Fs a1 a2 a3 a4 st)) (F : Fr (fun b => b = 129 ∨ b = 130) h h') (z2 : h'.length ≤ h.length + 302) (z1 : am_sz h' ≤ am_sz h + 902) : CB B (k + 1) h' W L R τ D T' tk Ls br ra rt a1 a2 a3 a4 st u c0 c1 c2 c3 c4 vs ss t1 t2 t3 ∧ Fm h h' := by
  obtain ⟨q1, ⟨q2, q2'⟩, q3, q4, ⟨b1, b2, b3⟩, q6, q7, q8, q9⟩ := C
  obtain ⟨d1, d2, d3, d4, d5, -⟩ := id q8
  obtain ⟨bs, s1, s2, s3, s4⟩ := q6
  have hN := sN5
  have nm : ∀ {p a : Nat}, a = p ∨ 147 ≤ a → p ≠ 129 → p ≠ 130 → ¬ (a = 129 ∨ a = 130) := fun {p a} x y1 y2 => by omega
  have kp := F.kp (fun b z => by
    rcases z with rfl | rfl
    · exact ⟨by rw [hN]; decide, _, s1, kn_s⟩
    · exact ⟨by rw [hN]; decide, _, s2, kn_o⟩)
  refine ⟨⟨F.get q1 (by decide), ⟨q2.fr F (by decide) (by decide), q2'⟩, q3.fr F kp (by decide) (by decide), q4.fr F (by decide) (by decide), ⟨b1.fr F (by decide) (nm d1 (by decide) (by decide)), b2.fr F (by decide) (nm d2 (by decide) (by decide)), b3.fr F (by decide) (nm d3 (by decide) (by decide))⟩, G, q7.fr F (by decide) (by decide) (nm d4 (by decide) (by decide)) (nm d5 (by decide) (by decide)), q8, q9.le (n := 302) (m := 902) z2 z1 (by clear d1 d2 d3 d4 d5; omega) (by clear d1 d2 d3 d4 d5; omega) F.1⟩, F.fm (fun b z => ?_)⟩
  clear d1 d2 d3 d4 d5
  rcases z with z | z <;> omega
theorem CB.up {k' : Nat} (C : CB B k h W L R τ D T tk Ls br ra rt a1 a2 a3 a4 st u c0 c1 c2 c3 c4 vs ss t1 t2 t3) (hk : k ≤ k') : CB B k' h W L R τ D T tk Ls br ra rt a1 a2 a3 a4 st u c0 c1 c2 c3 c4 vs ss t1 t2 t3 := by
  obtain ⟨q1, q2, q3, q4, q5, q6, q7, q8, q9⟩ := C
  exact ⟨q1, q2, q3, q4, q5, q6, q7, q8, q9.up hk⟩
theorem CI.cb (C : CI B (W, L, R, τ, D, T, tk, Ls, br) k h) : ∃ (ra rt a1 a2 a3 a4 st u : Nat) (c0 c1 c2 c3 c4 vs ss : List Value) (t1 t2 t3 : List Int32), CB B k h W L R τ D T tk Ls br ra rt a1 a2 a3 a4 st u c0 c1 c2 c3 c4 vs ss t1 t2 t3 := by
  obtain ⟨ra, rt, a1, a2, a3, a4, st, u, c0, c1, c2, c3, c4, vs, ss, q1, q2, q3, q4, ⟨⟨t1, b1⟩, ⟨t2, b2⟩, t3, b3⟩, q6, q7, q8, q9⟩ := C
  exact ⟨ra, rt, a1, a2, a3, a4, st, u, c0, c1, c2, c3, c4, vs, ss, t1, t2, t3, q1, q2, q3, q4, ⟨b1, b2, b3⟩, q6, q7, q8, q9⟩
theorem CB.x (C : CB B k h W L R τ D T tk Ls br ra rt a1 a2 a3 a4 st u c0 c1 c2 c3 c4 vs ss t1 t2 t3) : h[105]? = some (.inr 0, [.ref 106, .ref ra, .ref rt, .ref 111, .ref 123, .ref 125, .ref 127, .ref 129, .ref 131, .int tk]) := C.1
theorem CB.b (C : CB B k h W L R τ D T tk Ls br ra rt a1 a2 a3 a4 st u c0 c1 c2 c3 c4 vs ss t1 t2 t3) : h[111]? = some (.inr 4, [.ref 112, .ref 114]) := C.2.2.1.b1
theorem CB.dt (C : CB B k h W L R τ D T tk Ls br ra rt a1 a2 a3 a4 st u c0 c1 c2 c3 c4 vs ss t1 t2 t3) : Dat h 112 113 D u vs := C.2.2.2.1
theorem CB.su (C : CB B k h W L R τ D T tk Ls br ra rt a1 a2 a3 a4 st u c0 c1 c2 c3 c4 vs ss t1 t2 t3) : Sui h T (Fs a1 a2 a3 a4 st) := C.2.2.2.2.2.1
theorem CB.b1 (C : CB B k h W L R τ D T tk Ls br ra rt a1 a2 a3 a4 st u c0 c1 c2 c3 c4 vs ss t1 t2 t3) : Chs h 123 a1 t1 c1 := C.2.2.2.2.1.1
theorem CB.b2 (C : CB B k h W L R τ D T tk Ls br ra rt a1 a2 a3 a4 st u c0 c1 c2 c3 c4 vs ss t1 t2 t3) : Chs h 125 a2 t2 c2 := C.2.2.2.2.1.2.1
theorem CB.b3 (C : CB B k h W L R τ D T tk Ls br ra rt a1 a2 a3 a4 st u c0 c1 c2 c3 c4 vs ss t1 t2 t3) : Chs h 127 a3 t3 c3 := C.2.2.2.2.1.2.2
theorem CB.n13 (C : CB B k h W L R τ D T tk Ls br ra rt a1 a2 a3 a4 st u c0 c1 c2 c3 c4 vs ss t1 t2 t3) : a1 ≠ a3 := C.2.2.2.2.2.2.2.1.2.2.2.2.2.2.1
theorem CB.n23 (C : CB B k h W L R τ D T tk Ls br ra rt a1 a2 a3 a4 st u c0 c1 c2 c3 c4 vs ss t1 t2 t3) : a2 ≠ a3 := C.2.2.2.2.2.2.2.1.2.2.2.2.2.2.2.2.2.1
theorem CB.n73 (C : CB B k h W L R τ D T tk Ls br ra rt a1 a2 a3 a4 st u c0 c1 c2 c3 c4 vs ss t1 t2 t3) : 107 ≠ a3 := by
  have := C.2.2.2.2.2.2.2.1.2.2.1
  omega
theorem co_ret {s : St} (I : SI s) (C : CI B s k h) (K : ∀ h', CI B (oRet s).1 (k + 1) h' → Fm h h' → Q (some (.int (oRet s).2)) h') : wp (d + 61) 31 0 [some (.ref 105)] [] h Q := by
  obtain ⟨W, L, R, τ, D, T, tk, Ls, br⟩ := s
  obtain ⟨i1, i2, i3, i4, i5, i6, i7, i8, i9⟩ := I
  obtain ⟨ra, rt, a1, a2, a3, a4, st, u, c0, c1, c2, c3, c4, vs, ss, t1, t2, t3, C0⟩ := C.cb
  clear C
  have i6' := i6.1
  have hN : sN ≤ 105 := by rw [sN5]; decide
  unfold oRet at K
  dsimp only at K
  obtain ⟨bs, s1, -⟩ := id C0.su
  simp only [k_31_0, k_31_0N, k_31_1, k_31_4, okG_iff C0.x, fld_of C0.x, okV_iff s1, sp_full C0.su i6', am_cat, am_kill, Value.category, List.map_cons, List.map_nil, List.sum_cons, List.sum_nil, Option.toList_some, Option.toList_none, List.cons_append, List.nil_append, List.length_cons, List.length_nil, List.getD_cons_succ, List.getD_cons_zero, List.set_cons_succ, List.set_cons_zero, Nat.reduceAdd, Nat.reduceLT, Nat.reduceLeDiff, Nat.zero_le, Nat.zero_add, Nat.add_zero]
  by_cases c : T.length = 20
  · rw [if_pos c] at K
    simp only [k_31_7, k_31_10, k_31_12, c, if_true, show ¬ (1 : Int32) = 0 by decide, if_false, am_cat, am_kill, Value.category, List.map_cons, List.map_nil, List.sum_cons, List.sum_nil, Option.toList_some, Option.toList_none, List.cons_append, List.nil_append, List.length_cons, List.length_nil, List.getD_cons_succ, List.getD_cons_zero, List.set_cons_succ, List.set_cons_zero, Nat.reduceAdd, Nat.reduceLT, Nat.reduceLeDiff, Nat.zero_le, Nat.zero_add, Nat.add_zero]
    exact K h (C0.ci.up (Nat.le_succ k)) Fm.rf
  rw [if_neg c] at K
  simp only [k_31_7, k_31_13, k_31_13N, k_31_17, k_31_17N, k_31_21, k_31_21N, k_31_14, k_31_18, k_31_22, k_31_25, c, if_true, if_false, okG_iff C0.x, fld_of C0.x, okV_iff C0.b, am_cat, am_kill, Value.category, List.map_cons, List.map_nil, List.sum_cons, List.sum_nil, Option.toList_some, Option.toList_none, List.cons_append, List.nil_append, List.length_cons, List.length_nil, List.getD_cons_succ, List.getD_cons_zero, List.set_cons_succ, List.set_cons_zero, Nat.reduceAdd, Nat.reduceLT, Nat.reduceLeDiff, Nat.zero_le, Nat.zero_add, Nat.add_zero]
  refine st_call C0.2.2.1 (i3.2 4 (by decide)).2 C0.dt C0.b1 (fun h1 a1' t1' c1' G1 D1 F1 Cu1 l1 => ?_)
  obtain ⟨C1, M1⟩ := C0.s1 G1 D1 F1
  clear G1 D1 F1 C0 s1
  simp only [k_31_28, k_31_28N, k_31_32, k_31_32N, k_31_36, k_31_36N, k_31_29, k_31_33, k_31_37, k_31_40, okG_iff C1.x, fld_of C1.x, okV_iff C1.b, am_cat, am_kill, Value.category, List.map_cons, List.map_nil, List.sum_cons, List.sum_nil, Option.toList_some, Option.toList_none, List.cons_append, List.nil_append, List.length_cons, List.length_nil, List.getD_cons_succ, List.getD_cons_zero, List.set_cons_succ, List.set_cons_zero, Nat.reduceAdd, Nat.reduceLT, Nat.reduceLeDiff, Nat.zero_le, Nat.zero_add, Nat.add_zero]
  refine st_out C1.2.2.1 i4 C1.dt C1.b2 (fun h2 a2' t2' c2' G2 D2 F2 Cu2 l2 => ?_)
  obtain ⟨C2, M2⟩ := C1.s2 G2 D2 F2
  replace M2 := M1.tr M2
  clear G2 D2 F2 C1 M1
  simp only [k_31_43, k_31_43N, k_31_44, k_31_44N, k_31_45, k_31_48, okG_iff C2.x, fld_of C2.x, okV_iff C2.b, am_cat, am_kill, Value.category, List.map_cons, List.map_nil, List.sum_cons, List.sum_nil, Option.toList_some, Option.toList_none, List.cons_append, List.nil_append, List.length_cons, List.length_nil, List.getD_cons_succ, List.getD_cons_zero, List.set_cons_succ, List.set_cons_zero, Nat.reduceAdd, Nat.reduceLT, Nat.reduceLeDiff, Nat.zero_le, Nat.zero_add, Nat.add_zero]
  simp only [k_26_0, k_26_0N, k_26_4, k_26_4N, k_26_1, okG_iff C2.b, fld_of C2.b, am_cat, am_kill, Value.category, List.map_cons, List.map_nil, List.sum_cons, List.sum_nil, Option.toList_some, Option.toList_none, List.cons_append, List.nil_append, List.length_cons, List.length_nil, List.getD_cons_succ, List.getD_cons_zero, List.set_cons_succ, List.set_cons_zero, Nat.reduceAdd, Nat.reduceLT, Nat.reduceLeDiff, Nat.zero_le, Nat.zero_add, Nat.add_zero]
  simp only [k_31_51, okV_iff C2.dt.1, sp_dused C2.dt, am_cat, am_kill, Value.category, List.map_cons, List.map_nil, List.sum_cons, List.sum_nil, Option.toList_some, Option.toList_none, List.cons_append, List.nil_append, List.length_cons, List.length_nil, List.getD_cons_succ, List.getD_cons_zero, List.set_cons_succ, List.set_cons_zero, Nat.reduceAdd, Nat.reduceLT, Nat.reduceLeDiff, Nat.zero_le, Nat.zero_add, Nat.add_zero]
  simp only [k_31_54, okG_iff C2.x, hput_of C2.x, hN, am_cat, am_kill, Value.category, List.map_cons, List.map_nil, List.sum_cons, List.sum_nil, Option.toList_some, Option.toList_none, List.cons_append, List.nil_append, List.length_cons, List.length_nil, List.getD_cons_succ, List.getD_cons_zero, List.set_cons_succ, List.set_cons_zero, Nat.reduceAdd, Nat.reduceLT, Nat.reduceLeDiff, Nat.zero_le, Nat.zero_add, Nat.add_zero]
  obtain ⟨C3, M3⟩ := C2.s4 (tk' := nI (min (outT D R τ (callT D R (R.getD 4 [])).2).2 D.length))
  replace M3 := M2.tr M3
  clear C2 M2
  generalize h2.set 105 (.inr 0, [.ref 106, .ref ra, .ref rt, .ref 111, .ref 123, .ref 125, .ref 127, .ref 129, .ref 131, .int (nI (min (outT D R τ (callT D R (R.getD 4 [])).2).2 D.length))]) = h3 at C3 M3
  simp only [k_31_57, k_31_57N, k_31_58, okV_iff C3.x, am_cat, am_kill, Value.category, List.map_cons, List.map_nil, List.sum_cons, List.sum_nil, Option.toList_some, Option.toList_none, List.cons_append, List.nil_append, List.length_cons, List.length_nil, List.getD_cons_succ, List.getD_cons_zero, List.set_cons_succ, List.set_cons_zero, Nat.reduceAdd, Nat.reduceLT, Nat.reduceLeDiff, Nat.zero_le, Nat.zero_add, Nat.add_zero]
  refine st_assert C3.1 C3.2.2.1 i4 C3.dt C3.b1 C3.b2 C3.b3 C3.n13 C3.n23 l1 l2 (fun h4 a3' c3' G4 D4 F4 => ?_)
  obtain ⟨C4, M4⟩ := C3.s3 G4 D4 F4
  replace M4 := M3.tr M4
  clear C3 M3 G4 D4 F4
  simp only [k_31_61, k_31_61N, k_31_62, k_31_63, okV_iff C4.x, am_cat, am_kill, Value.category, List.map_cons, List.map_nil, List.sum_cons, List.sum_nil, Option.toList_some, Option.toList_none, List.cons_append, List.nil_append, List.length_cons, List.length_nil, List.getD_cons_succ, List.getD_cons_zero, List.set_cons_succ, List.set_cons_zero, Nat.reduceAdd, Nat.reduceLT, Nat.reduceLeDiff, Nat.zero_le, Nat.zero_add, Nat.add_zero]
  have hc := asT_cut (τ := τ) Cu1 Cu2 outZ
  unfold oKeep at K
  dsimp only at K
  refine co_keep (th := false) C4.1 C4.su (by omega) C4.b3 hc C4.fs C4.lt.2.2.2.2.2 (fun y1 => ?_) (fun y1 y2 => ?_) (fun y1 y2 h5 S5 F5 z1 z2 => ?_)
  · rw [if_pos y1] at K
    simp only [k_31_66, am_cat, am_kill, Value.category, List.map_cons, List.map_nil, List.sum_cons, List.sum_nil, Option.toList_some, Option.toList_none, List.cons_append, List.nil_append, List.length_cons, List.length_nil, List.getD_cons_succ, List.getD_cons_zero, List.set_cons_succ, List.set_cons_zero, Nat.reduceAdd, Nat.reduceLT, Nat.reduceLeDiff, Nat.zero_le, Nat.zero_add, Nat.add_zero]
    exact K h4 (C4.ci.up (Nat.le_succ k)) M4
  · rw [if_neg y1, if_pos y2] at K
    simp only [k_31_66, am_cat, am_kill, Value.category, List.map_cons, List.map_nil, List.sum_cons, List.sum_nil, Option.toList_some, Option.toList_none, List.cons_append, List.nil_append, List.length_cons, List.length_nil, List.getD_cons_succ, List.getD_cons_zero, List.set_cons_succ, List.set_cons_zero, Nat.reduceAdd, Nat.reduceLT, Nat.reduceLeDiff, Nat.zero_le, Nat.zero_add, Nat.add_zero]
    exact K h4 (C4.ci.up (Nat.le_succ k)) M4
  · rw [if_neg y1, if_neg y2] at K
    obtain ⟨C5, M5⟩ := C4.s5 S5 F5 z1 z2
    simp only [k_31_66, am_cat, am_kill, Value.category, List.map_cons, List.map_nil, List.sum_cons, List.sum_nil, Option.toList_some, Option.toList_none, List.cons_append, List.nil_append, List.length_cons, List.length_nil, List.getD_cons_succ, List.getD_cons_zero, List.set_cons_succ, List.set_cons_zero, Nat.reduceAdd, Nat.reduceLT, Nat.reduceLeDiff, Nat.zero_le, Nat.zero_add, Nat.add_zero]
    exact K h5 C5.ci (M4.tr M5)
theorem co_tail {x : Int32} {o1 : Option Value} (C : CB B k h W L R τ D T tk Ls br ra rt a1 a2 a3 a4 st u c0 c1 c2 c3 c4 vs ss t1 t2 t3) (K : ∀ h', CI B (W, [], R, τ, D, T, tk, Ls, br) k h' → Fm h h' → Q (some (.int x)) h') : wp (d + 1) 65 73 [some (.ref 105), o1, some (.int x)] [] h Q := by
  simp only [k_65_73, k_65_73N, k_65_74, k_65_77, okG_iff C.x, fld_of C.x, okV_iff C.2.1.1.1, am_cat, am_kill, Value.category, List.map_cons, List.map_nil, List.sum_cons, List.sum_nil, Option.toList_some, Option.toList_none, List.cons_append, List.nil_append, List.length_cons, List.length_nil, List.getD_cons_succ, List.getD_cons_zero, List.set_cons_succ, List.set_cons_zero, Nat.reduceAdd, Nat.reduceLT, Nat.reduceLeDiff, Nat.zero_le, Nat.zero_add, Nat.add_zero]
  refine sp_empty2 C.2.1.1 (fun h1 G z1 z2 F => ?_)
  obtain ⟨C1, M1⟩ := C.s6 G C.2.1.2 z1 z2 F
  simp only [k_65_80, k_65_81, am_cat, am_kill, Value.category, List.map_cons, List.map_nil, List.sum_cons, List.sum_nil, Option.toList_some, Option.toList_none, List.cons_append, List.nil_append, List.length_cons, List.length_nil, List.getD_cons_succ, List.getD_cons_zero, List.set_cons_succ, List.set_cons_zero, Nat.reduceAdd, Nat.reduceLT, Nat.reduceLeDiff, Nat.zero_le, Nat.zero_add, Nat.add_zero]
  exact K h1 C1.ci M1
theorem co_thr {s : St} (I : SI s) (C : CI B s k h) (K : ∀ h', CI B (oThr s).1 (k + 1) h' → Fm h h' → Q (some (.int (oThr s).2)) h') : wp (d + 61) 65 0 [some (.ref 105), none, none] [] h Q := by
  obtain ⟨W, L, R, τ, D, T, tk, Ls, br⟩ := s
  obtain ⟨i1, i2, i3, i4, i5, i6, i7, i8, i9⟩ := I
  obtain ⟨ra, rt, a1, a2, a3, a4, st, u, c0, c1, c2, c3, c4, vs, ss, t1, t2, t3, C0⟩ := C.cb
  clear C
  have i6' := i6.1
  have hN : sN ≤ 105 := by rw [sN5]; decide
  unfold oThr at K
  dsimp only at K
  obtain ⟨bs, s1, -⟩ := id C0.su
  simp only [k_65_0, k_65_0N, k_65_1, k_65_4, okG_iff C0.x, fld_of C0.x, okV_iff C0.2.1.1.1, sp_name C0.2.1.1, am_cat, am_kill, Value.category, List.map_cons, List.map_nil, List.sum_cons, List.sum_nil, Option.toList_some, Option.toList_none, List.cons_append, List.nil_append, List.length_cons, List.length_nil, List.getD_cons_succ, List.getD_cons_zero, List.set_cons_succ, List.set_cons_zero, Nat.reduceAdd, Nat.reduceLT, Nat.reduceLeDiff, Nat.zero_le, Nat.zero_add, Nat.add_zero]
  by_cases cn : L.all isLet = true ∧ 0 < L.length
  · rw [if_pos cn] at K ⊢
    simp only [k_65_7, k_65_8, k_65_9, k_65_12, k_65_14, k_65_19, k_65_20, k_65_21, k_65_24, k_65_24N, k_65_25, k_65_28, am_kill, show ¬ (1 : Int32) = 0 by decide, if_false, okG_iff C0.x, fld_of C0.x, okV_iff s1, sp_full C0.su i6', am_cat, am_kill, Value.category, List.map_cons, List.map_nil, List.sum_cons, List.sum_nil, Option.toList_some, Option.toList_none, List.cons_append, List.nil_append, List.length_cons, List.length_nil, List.getD_cons_succ, List.getD_cons_zero, List.set_cons_succ, List.set_cons_zero, Nat.reduceAdd, Nat.reduceLT, Nat.reduceLeDiff, Nat.zero_le, Nat.zero_add, Nat.add_zero]
    by_cases c : T.length = 20
    · rw [if_pos c] at K
      simp only [k_65_31, c, if_true, show ¬ (1 : Int32) = 0 by decide, if_false, am_cat, am_kill, Value.category, List.map_cons, List.map_nil, List.sum_cons, List.sum_nil, Option.toList_some, Option.toList_none, List.cons_append, List.nil_append, List.length_cons, List.length_nil, List.getD_cons_succ, List.getD_cons_zero, List.set_cons_succ, List.set_cons_zero, Nat.reduceAdd, Nat.reduceLT, Nat.reduceLeDiff, Nat.zero_le, Nat.zero_add, Nat.add_zero]
      exact co_tail C0 (fun h' C' M' => K h' (C'.up (Nat.le_succ k)) M')
    rw [if_neg c] at K
    simp only [k_65_31, k_65_34, k_65_34N, k_65_38, k_65_38N, k_65_42, k_65_42N, k_65_35, k_65_39, k_65_43, k_65_46, c, if_true, if_false, okG_iff C0.x, fld_of C0.x, okV_iff C0.b, am_cat, am_kill, Value.category, List.map_cons, List.map_nil, List.sum_cons, List.sum_nil, Option.toList_some, Option.toList_none, List.cons_append, List.nil_append, List.length_cons, List.length_nil, List.getD_cons_succ, List.getD_cons_zero, List.set_cons_succ, List.set_cons_zero, Nat.reduceAdd, Nat.reduceLT, Nat.reduceLeDiff, Nat.zero_le, Nat.zero_add, Nat.add_zero]
    refine st_call C0.2.2.1 (i3.2 4 (by decide)).2 C0.dt C0.b1 (fun h1 a1' t1' c1' G1 D1 F1 Cu1 l1 => ?_)
    obtain ⟨C2, M2⟩ := C0.s1 G1 D1 F1
    clear G1 D1 F1 C0 s1
    simp only [k_65_49, k_65_49N, k_65_50, k_65_50N, k_65_51, k_65_54, okG_iff C2.x, fld_of C2.x, okV_iff C2.b, am_cat, am_kill, Value.category, List.map_cons, List.map_nil, List.sum_cons, List.sum_nil, Option.toList_some, Option.toList_none, List.cons_append, List.nil_append, List.length_cons, List.length_nil, List.getD_cons_succ, List.getD_cons_zero, List.set_cons_succ, List.set_cons_zero, Nat.reduceAdd, Nat.reduceLT, Nat.reduceLeDiff, Nat.zero_le, Nat.zero_add, Nat.add_zero]
    simp only [k_26_0, k_26_0N, k_26_4, k_26_4N, k_26_1, okG_iff C2.b, fld_of C2.b, am_cat, am_kill, Value.category, List.map_cons, List.map_nil, List.sum_cons, List.sum_nil, Option.toList_some, Option.toList_none, List.cons_append, List.nil_append, List.length_cons, List.length_nil, List.getD_cons_succ, List.getD_cons_zero, List.set_cons_succ, List.set_cons_zero, Nat.reduceAdd, Nat.reduceLT, Nat.reduceLeDiff, Nat.zero_le, Nat.zero_add, Nat.add_zero]
    simp only [k_65_57, okV_iff C2.dt.1, sp_dused C2.dt, am_cat, am_kill, Value.category, List.map_cons, List.map_nil, List.sum_cons, List.sum_nil, Option.toList_some, Option.toList_none, List.cons_append, List.nil_append, List.length_cons, List.length_nil, List.getD_cons_succ, List.getD_cons_zero, List.set_cons_succ, List.set_cons_zero, Nat.reduceAdd, Nat.reduceLT, Nat.reduceLeDiff, Nat.zero_le, Nat.zero_add, Nat.add_zero]
    simp only [k_65_60, okG_iff C2.x, hput_of C2.x, hN, am_cat, am_kill, Value.category, List.map_cons, List.map_nil, List.sum_cons, List.sum_nil, Option.toList_some, Option.toList_none, List.cons_append, List.nil_append, List.length_cons, List.length_nil, List.getD_cons_succ, List.getD_cons_zero, List.set_cons_succ, List.set_cons_zero, Nat.reduceAdd, Nat.reduceLT, Nat.reduceLeDiff, Nat.zero_le, Nat.zero_add, Nat.add_zero]
    obtain ⟨C3, M3⟩ := C2.s4 (tk' := nI (min (callT D R (R.getD 4 [])).2 D.length))
    replace M3 := M2.tr M3
    clear C2 M2
    generalize h1.set 105 (.inr 0, [.ref 106, .ref ra, .ref rt, .ref 111, .ref 123, .ref 125, .ref 127, .ref 129, .ref 131, .int (nI (min (callT D R (R.getD 4 [])).2 D.length))]) = h3 at C3 M3
    simp only [k_65_63, k_65_63N, k_65_64, okV_iff C3.x, am_cat, am_kill, Value.category, List.map_cons, List.map_nil, List.sum_cons, List.sum_nil, Option.toList_some, Option.toList_none, List.cons_append, List.nil_append, List.length_cons, List.length_nil, List.getD_cons_succ, List.getD_cons_zero, List.set_cons_succ, List.set_cons_zero, Nat.reduceAdd, Nat.reduceLT, Nat.reduceLeDiff, Nat.zero_le, Nat.zero_add, Nat.add_zero]
    refine st_catch C3.1 C3.2.2.1.2.2.2.1 C3.dt C3.b1 C3.2.1.1 C3.b3 C3.n13 C3.n73 l1 i2.1 (fun h4 a3' c3' G4 D4 F4 => ?_)
    obtain ⟨C4, M4⟩ := C3.s3 G4 D4 F4
    replace M4 := M3.tr M4
    clear C3 M3 G4 D4 F4
    simp only [k_65_67, k_65_67N, k_65_68, k_65_69, okV_iff C4.x, am_cat, am_kill, Value.category, List.map_cons, List.map_nil, List.sum_cons, List.sum_nil, Option.toList_some, Option.toList_none, List.cons_append, List.nil_append, List.length_cons, List.length_nil, List.getD_cons_succ, List.getD_cons_zero, List.set_cons_succ, List.set_cons_zero, Nat.reduceAdd, Nat.reduceLT, Nat.reduceLeDiff, Nat.zero_le, Nat.zero_add, Nat.add_zero]
    have hc := ctT_cut (nm := L) Cu1
    unfold oKeep at K
    dsimp only at K
    refine co_keep (th := true) C4.1 C4.su (by omega) C4.b3 hc C4.fs C4.lt.2.2.2.2.2 (fun y1 => ?_) (fun y1 y2 => ?_) (fun y1 y2 h5 S5 F5 z1 z2 => ?_)
    · rw [if_pos y1] at K
      simp only [k_65_72, am_kill, am_cat, am_kill, Value.category, List.map_cons, List.map_nil, List.sum_cons, List.sum_nil, Option.toList_some, Option.toList_none, List.cons_append, List.nil_append, List.length_cons, List.length_nil, List.getD_cons_succ, List.getD_cons_zero, List.set_cons_succ, List.set_cons_zero, Nat.reduceAdd, Nat.reduceLT, Nat.reduceLeDiff, Nat.zero_le, Nat.zero_add, Nat.add_zero]
      exact co_tail C4 (fun h' C' M' => K h' (C'.up (Nat.le_succ k)) (M4.tr M'))
    · rw [if_neg y1, if_pos y2] at K
      simp only [k_65_72, am_kill, am_cat, am_kill, Value.category, List.map_cons, List.map_nil, List.sum_cons, List.sum_nil, Option.toList_some, Option.toList_none, List.cons_append, List.nil_append, List.length_cons, List.length_nil, List.getD_cons_succ, List.getD_cons_zero, List.set_cons_succ, List.set_cons_zero, Nat.reduceAdd, Nat.reduceLT, Nat.reduceLeDiff, Nat.zero_le, Nat.zero_add, Nat.add_zero]
      exact co_tail C4 (fun h' C' M' => K h' (C'.up (Nat.le_succ k)) (M4.tr M'))
    · rw [if_neg y1, if_neg y2] at K
      obtain ⟨C5, M5⟩ := C4.s5 S5 F5 z1 z2
      simp only [k_65_72, am_kill, am_cat, am_kill, Value.category, List.map_cons, List.map_nil, List.sum_cons, List.sum_nil, Option.toList_some, Option.toList_none, List.cons_append, List.nil_append, List.length_cons, List.length_nil, List.getD_cons_succ, List.getD_cons_zero, List.set_cons_succ, List.set_cons_zero, Nat.reduceAdd, Nat.reduceLT, Nat.reduceLeDiff, Nat.zero_le, Nat.zero_add, Nat.add_zero]
      exact co_tail C5 (fun h' C' M' => K h' C' ((M4.tr M5).tr M'))
  · rw [if_neg cn] at K ⊢
    simp only [k_65_7, k_65_8, k_65_9, k_65_17, k_65_19, k_65_20, k_65_21, am_kill, if_true, am_cat, am_kill, Value.category, List.map_cons, List.map_nil, List.sum_cons, List.sum_nil, Option.toList_some, Option.toList_none, List.cons_append, List.nil_append, List.length_cons, List.length_nil, List.getD_cons_succ, List.getD_cons_zero, List.set_cons_succ, List.set_cons_zero, Nat.reduceAdd, Nat.reduceLT, Nat.reduceLeDiff, Nat.zero_le, Nat.zero_add, Nat.add_zero]
    exact co_tail C0 (fun h' C' M' => K h' (C'.up (Nat.le_succ k)) M')
end RT
