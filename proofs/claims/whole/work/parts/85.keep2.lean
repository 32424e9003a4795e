/-! FROM CALL TO CALL -/
section LP
variable {B k : Nat} {s : St} {h h' P S : AH} {n n' : Nat → Int32} {A A' : Nat → Nat → Int32}
theorem CI.ov (C : CI B s k h) : okV h 105 0 ↔ True := by
  obtain ⟨W, L, R, τ, D, T, tk, Ls, br⟩ := s
  obtain ⟨ra, rt, a1, a2, a3, a4, st, u, c0, c1, c2, c3, c4, vs, ss, q1, -⟩ := C
  have X : h[105]? = some (.inr 0, [.ref 106, .ref ra, .ref rt, .ref 111, .ref 123, .ref 125, .ref 127, .ref 129, .ref 131, .int tk]) := q1
  exact okV_iff X
theorem CI.bd (C : CI B s k h) : h.length ≤ 200 + 400 * k + 160000 ∧ am_sz h ≤ B + 2000 * k + 320000 := by
  obtain ⟨W, L, R, τ, D, T, tk, Ls, br⟩ := s
  obtain ⟨ra, rt, a1, a2, a3, a4, st, u, c0, c1, c2, c3, c4, vs, ss, -, -, -, -, -, -, -, -, f1, f2, f3, f4, f5, f6, f7, f8⟩ := C
  exact ⟨by omega, by omega⟩
theorem CI.fr (C : CI B s k h) (F : Fr (fun b => 135 ≤ b ∧ b < 147) h h') (kp : Kp h h') (z1 : am_sz h' = am_sz h) (z2 : h'.length = h.length) : CI B s k h' := by
  obtain ⟨W, L, R, τ, D, T, tk, Ls, br⟩ := s
  obtain ⟨ra, rt, a1, a2, a3, a4, st, u, c0, c1, c2, c3, c4, vs, ss, q1, ⟨q2, q2'⟩, q3, q4, q5, q6, q7, q8, q9⟩ := C
  obtain ⟨d1, d2, d3, d4, d5, -⟩ := id q8
  have nm : ∀ {p a : Nat}, a = p ∨ 147 ≤ a → p < 135 → ¬ (135 ≤ a ∧ a < 147) := fun {p a} x y => by omega
  exact ⟨ra, rt, a1, a2, a3, a4, st, u, c0, c1, c2, c3, c4, vs, ss, F.get q1 (by decide), ⟨q2.fr F (by decide) (by decide), q2'⟩, q3.fr F kp (by decide) (by decide), q4.fr F (by decide) (by decide), q5.fr F (by decide) (nm d1 (by decide)) (by decide) (nm d2 (by decide)) (by decide) (nm d3 (by decide)), q6.fr F (by decide) (by decide) (fun b x1 _ x3 => ⟨by clear d1 d2 d3 d4 d5; omega, x3⟩), q7.fr F (by decide) (by decide) (nm d4 (by decide)) (nm d5 (by decide)), q8, q9.le (n := 0) (m := 0) (Nat.le_of_eq z2) (Nat.le_of_eq z1) (by clear d1 d2 d3 d4 d5; omega) (by clear d1 d2 d3 d4 d5; omega) (Nat.le_of_eq z2.symm)⟩
theorem kn_m (i : Nat) : ¬ kpt (.inl (mT i)) := by
  unfold mT
  split <;> simp [kpt]
theorem CI.mod (hP : P.length = 135) (C : CI B s k (wr P S n A)) : CI B s k (wr P S n' A') := by
  have hN := sN5
  have l1 := wr_len (S := S) (n := n) (A := A) hP
  have l2 := wr_len (S := S) (n := n') (A := A') hP
  have F : Fr (fun b => 135 ≤ b ∧ b < 147) (wr P S n A) (wr P S n' A') := by
    refine ⟨by omega, fun b hb ne => ?_⟩
    by_cases c : b < 135
    · rw [wr_lo hP c, wr_lo hP c]
    · have c2 : 147 ≤ b := by
        have ne : ¬ (135 ≤ b ∧ b < 147) := ne
        omega
      rw [wr_hi hP c2, wr_hi hP c2]
  refine C.fr F (F.kp (fun b z => ⟨by have := z.1; omega, ?_⟩)) ?_ (by omega)
  · obtain ⟨z1, z2⟩ := z
    by_cases c : b = 135
    · subst c
      exact ⟨_, wr_obj hP, by simp [kpt]⟩
    · obtain ⟨i, hi, rfl⟩ : ∃ i, i < 11 ∧ b = 136 + i := ⟨b - 136, by omega, by omega⟩
      exact ⟨_, wr_arr hP hi, kn_m i⟩
  · show am_sz (P ++ (mcs n' A' ++ S)) = am_sz (P ++ (mcs n A ++ S))
    rw [sz_app, sz_app, sz_app, sz_app, sz_mcs, sz_mcs]
theorem dec_wr (hP : P.length = 135) (F : Fm (wr P S n A) h') : ∃ P' S', P'.length = 135 ∧ h' = wr P' S' n A ∧ ∀ b, b < 105 → h'[b]? = (wr P S n A)[b]? := by
  obtain ⟨f1, f2⟩ := F
  have l1 := wr_len (S := S) (n := n) (A := A) hP
  have lp : (h'.take 135).length = 135 := by rw [List.length_take]; omega
  refine ⟨h'.take 135, h'.drop 147, lp, ?_, fun b hb => f2 b (by omega) (Or.inl hb)⟩
  refine wr_ext hP ?_ ?_ ?_ ?_
  · intro b hb
    rw [wr_lo lp hb, List.getElem?_take, if_pos hb]
  · rw [f2 135 (by omega) (Or.inr ⟨by decide, by decide⟩), wr_obj hP, wr_obj lp]
  · intro i hi
    rw [f2 (136 + i) (by omega) (Or.inr ⟨by omega, by omega⟩), wr_arr hP hi, wr_arr lp hi]
  · intro b hb
    rw [wr_hi lp hb, List.getElem?_drop, show 147 + (b - 147) = b by omega]
/-- the run's heap, between two calls -/
def Lp (B : Nat) (xs : List Int32) (s : St) (k : Nat) (h : AH) : Prop := ∃ P S n A, P.length = 135 ∧ h = wr P S n A ∧ CI B s k h ∧ MI s n A ∧ SI s ∧ h[104]? = some (.inl .int, xs.map Value.int)
end LP
