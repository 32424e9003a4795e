/-! HOW THE PROGRAM HOLDS A RUN -/
def Fr (E : Nat → Prop) (h h' : AH) : Prop := h.length ≤ h'.length ∧ ∀ b, b < h.length → ¬ E b → h'[b]? = h[b]?
def kpt (t : FieldType ⊕ Nat) : Prop := t = .inr 3 ∨ t = .inr 2 ∨ t = .inl (.object "TestEmitter$Type")
def Kp (h h' : AH) : Prop := h.length ≤ h'.length ∧ ∀ b x, h[b]? = some x → (b < sN ∨ kpt x.1) → h'[b]? = some x
section FR
variable {E E1 E2 : Nat → Prop} {h h' h1 h2 : AH}
theorem Fr.rf : Fr E h h := ⟨Nat.le_refl _, fun _ _ _ => rfl⟩
theorem Fr.tr (F1 : Fr E h h1) (F2 : Fr E1 h1 h2) (hE : ∀ b, b < h.length → E1 b → E b) : Fr E h h2 := ⟨Nat.le_trans F1.1 F2.1, fun b hb ne => by rw [F2.2 b (Nat.lt_of_lt_of_le hb F1.1) (fun z => ne (hE b hb z))]; exact F1.2 b hb ne⟩
theorem Fr.mono (F : Fr E1 h h') (hE : ∀ b, b < h.length → E1 b → E b) : Fr E h h' := ⟨F.1, fun b hb ne => F.2 b hb (fun z => ne (hE b hb z))⟩
theorem Fr.set {a : Nat} {x : AC} : Fr (fun b => b = a) h (h.set a x) := ⟨by rw [List.length_set]; exact Nat.le_refl _, fun b _ ne => get_set_ne (fun z => ne z.symm)⟩
theorem Fr.gr {n m : Nat} (G : Grow h h' n m) : Fr (fun _ => False) h h' := ⟨G.1, fun b hb _ => G.2.2.2 b hb⟩
theorem Fr.bi {g : AH} {a ar0 : Nat} {cs0 vs : List Value} {D t : List Int32} {u : Nat} (X : BI g a ar0 cs0 D vs h t u) : Fr (fun b => b = a ∨ b = ar0 ∨ b = 112) g h := ⟨X.2.1.1, fun b hb ne => X.2.1.2 b hb (fun z => ne (Or.inl z)) (fun z => ne (Or.inr (Or.inl z))) (fun z => ne (Or.inr (Or.inr z)))⟩
theorem Fr.get (F : Fr E h h') {b : Nat} {x : AC} (hb : h[b]? = some x) (ne : ¬ E b) : h'[b]? = some x := by rw [F.2 b (lt_of_get hb) ne]; exact hb
theorem Fr.kp (F : Fr E h h') (hE : ∀ b, E b → sN ≤ b ∧ ∃ x, h[b]? = some x ∧ ¬ kpt x.1) : Kp h h' := ⟨F.1, fun b x hb hk => F.get hb (fun z => by
  obtain ⟨q1, y, q2, q3⟩ := hE b z
  rw [hb] at q2
  cases q2
  rcases hk with hk | hk
  · omega
  · exact q3 hk)⟩
theorem Chs.fr {a ar : Nat} {t : List Int32} {cs : List Value} (H : Chs h a ar t cs) (F : Fr E h h') (n1 : ¬ E a) (n2 : ¬ E ar) : Chs h' a ar t cs := ⟨F.get H.1 n1, F.get H.2.1 n2, H.2.2⟩
theorem Dat.fr {a ir u : Nat} {D : List Int32} {vs : List Value} (H : Dat h a ir D u vs) (F : Fr E h h') (n1 : ¬ E a) (n2 : ¬ E ir) : Dat h' a ir D u vs := ⟨F.get H.1 n1, F.get H.2.1 n2, H.2.2⟩
theorem Row.kp {a q : Nat} {l : List Ty} (H : Row h a q l) (F : Kp h h') : Row h' a q l := by
  obtain ⟨vs, r1, r2, r3, r4, r5, r6, r7⟩ := H
  refine ⟨vs, F.2 _ _ r1 (Or.inr (Or.inr (Or.inl rfl))), F.2 _ _ r2 (Or.inr (Or.inr (Or.inr rfl))), r3, r4, r5, r6, fun j τ hj => ?_⟩
  obtain ⟨p, p1, p2, p3⟩ := r7 j τ hj
  exact ⟨p, p1, F.2 _ _ p2 (Or.inr (Or.inl rfl)), p3⟩
theorem Sta.kp (S : Sta h) (F : Kp h h') : Sta h' := by
  intro r hr
  have e1 := sN_eq
  have e2 := sH_len
  have hg : sH[r]? = some sH[r] := List.getElem?_eq_getElem (by omega)
  rw [hg]
  exact F.2 r _ (by rw [S r hr, hg]) (Or.inl (by omega))
theorem En.kp {R : List (List Ty)} (H : En h R) (F : Kp h h') (e1 : h'[111]? = h[111]?) (e2 : h'[114]? = h[114]?) : En h' R := by
  obtain ⟨q1, q2, rr, q3, q4, q5⟩ := H
  refine ⟨q1.kp F, by rw [e1]; exact q2, rr, by rw [e2]; exact q3, q4, fun k r hr => ?_⟩
  obtain ⟨q, z1, z2⟩ := q5 k r hr
  exact ⟨q, z1.kp F, z2⟩
end FR
def Tys (h : AH) (R : List (List Ty)) (τ : Ty) (ra rt : Nat) : Prop := (∃ qa, Row h ra qa (R.getD 4 [])) ∧ h[rt]? = some (tyc τ) ∧ sN ≤ rt ∧ En h R
def Bufs (h : AH) (a1 a2 a3 : Nat) (c1 c2 c3 : List Value) : Prop := (∃ t, Chs h 123 a1 t c1) ∧ (∃ t, Chs h 125 a2 t c2) ∧ ∃ t, Chs h 127 a3 t c3
def Sui (h : AH) (T : List Tst1) (F : Nat → Prop) : Prop := ∃ vs, h[129]? = some (.inr 6, [.ref 130, .int (nI T.length), .int (nI (cntB T))]) ∧ h[130]? = some (.inl (.object "TestEmitter$Chars"), vs) ∧ vs.length = 20 ∧ ∀ (j : Nat) (b : Tst1), T[j]? = some b → ∃ p q cs, vs[j]? = some (.ref p) ∧ Chs h p q b.1 cs ∧ 147 ≤ p ∧ 147 ≤ q ∧ ¬ F p ∧ ¬ F q
def Txc (h : AH) (W : Nat) (Ls : List (List Int32)) (br a4 st : Nat) (c4 ss : List Value) : Prop := h[131]? = some (.inr 7, [.int (nI W), .ref 132, .ref st, .int (nI Ls.length), .int (nI (tx Ls).length), .int (nI (mxl Ls)), .int (nI br)]) ∧ Chs h 132 a4 (tx Ls) c4 ∧ h[st]? = some (.inl .int, ss) ∧ Ls.length ≤ ss.length ∧ 1 ≤ ss.length ∧ ∀ j, j < Ls.length → ss[j]? = some (.int (nI (tx (Ls.take j)).length))
def Dj (a1 a2 a3 a4 st : Nat) : Prop := (a1 = 124 ∨ 147 ≤ a1) ∧ (a2 = 126 ∨ 147 ≤ a2) ∧ (a3 = 128 ∨ 147 ≤ a3) ∧ (a4 = 133 ∨ 147 ≤ a4) ∧ (st = 134 ∨ 147 ≤ st) ∧ a1 ≠ a2 ∧ a1 ≠ a3 ∧ a1 ≠ a4 ∧ a1 ≠ st ∧ a2 ≠ a3 ∧ a2 ≠ a4 ∧ a2 ≠ st ∧ a3 ≠ a4 ∧ a3 ≠ st ∧ a4 ≠ st
def Fs (a1 a2 a3 a4 st b : Nat) : Prop := b = a1 ∨ b = a2 ∨ b = a3 ∨ b = a4 ∨ b = st
def Cst (B k : Nat) (h : AH) (c1 c2 c3 c4 ss : Nat) : Prop := h.length ≤ 200 + 400 * k + (c1 + c2 + c3 + c4 + ss) ∧ am_sz h ≤ B + 2000 * k + 2 * (c1 + c2 + c3 + c4 + ss) ∧ c1 ≤ 20000 ∧ c2 ≤ 20000 ∧ c3 ≤ 40000 ∧ c4 ≤ 40000 ∧ ss ≤ 40000 ∧ 147 ≤ h.length
def X105 (h : AH) (ra rt : Nat) (tk : Int32) : Prop := h[105]? = some (.inr 0, [.ref 106, .ref ra, .ref rt, .ref 111, .ref 123, .ref 125, .ref 127, .ref 129, .ref 131, .int tk])
def CI (B : Nat) : St → Nat → AH → Prop
  | (W, L, R, τ, D, T, tk, Ls, br), k, h => ∃ (ra rt a1 a2 a3 a4 st u : Nat) (c0 c1 c2 c3 c4 vs ss : List Value), X105 h ra rt tk ∧ (Chs h 106 107 L c0 ∧ c0.length = 40) ∧ Tys h R τ ra rt ∧ Dat h 112 113 D u vs ∧ Bufs h a1 a2 a3 c1 c2 c3 ∧ Sui h T (Fs a1 a2 a3 a4 st) ∧ Txc h W Ls br a4 st c4 ss ∧ Dj a1 a2 a3 a4 st ∧ Cst B k h c1.length c2.length c3.length c4.length ss.length
/-- what no call of the program touches -/
def Fm (h h' : AH) : Prop := h.length ≤ h'.length ∧ ∀ b, b < h.length → (b < 105 ∨ (135 ≤ b ∧ b < 147)) → h'[b]? = h[b]?
section IV
variable {E : Nat → Prop} {h h' : AH}
theorem Fr.fm (F : Fr E h h') (hE : ∀ b, E b → ¬ (b < 105 ∨ (135 ≤ b ∧ b < 147))) : Fm h h' := ⟨F.1, fun b hb hq => F.2 b hb (fun z => hE b z hq)⟩
theorem Tys.kp {R : List (List Ty)} {τ : Ty} {ra rt : Nat} (H : Tys h R τ ra rt) (F : Kp h h') (e1 : h'[111]? = h[111]?) (e2 : h'[114]? = h[114]?) : Tys h' R τ ra rt := by
  obtain ⟨⟨q, q1⟩, q2, q3, q4⟩ := H
  exact ⟨⟨q, q1.kp F⟩, F.2 _ _ q2 (Or.inr (Or.inl rfl)), q3, q4.kp F e1 e2⟩
theorem Tys.b1 {R : List (List Ty)} {τ : Ty} {ra rt : Nat} (H : Tys h R τ ra rt) : h[111]? = some (.inr 4, [.ref 112, .ref 114]) := H.2.2.2.2.1
theorem Tys.fr {R : List (List Ty)} {τ : Ty} {ra rt : Nat} (H : Tys h R τ ra rt) (F : Fr E h h') (K : Kp h h') (n1 : ¬ E 111) (n2 : ¬ E 114) : Tys h' R τ ra rt := by
  obtain ⟨rr, q3, -⟩ := H.2.2.2.2.2
  exact H.kp K (F.2 _ (lt_of_get H.b1) n1) (F.2 _ (lt_of_get q3) n2)
theorem Bufs.fr {a1 a2 a3 : Nat} {c1 c2 c3 : List Value} (H : Bufs h a1 a2 a3 c1 c2 c3) (F : Fr E h h') (n1 : ¬ E 123) (n2 : ¬ E a1) (n3 : ¬ E 125) (n4 : ¬ E a2) (n5 : ¬ E 127) (n6 : ¬ E a3) : Bufs h' a1 a2 a3 c1 c2 c3 := by
  obtain ⟨⟨t1, q1⟩, ⟨t2, q2⟩, t3, q3⟩ := H
  exact ⟨⟨t1, q1.fr F n1 n2⟩, ⟨t2, q2.fr F n3 n4⟩, t3, q3.fr F n5 n6⟩
theorem Sui.fr {T : List Tst1} {G G' : Nat → Prop} (H : Sui h T G) (F : Fr E h h') (n1 : ¬ E 129) (n2 : ¬ E 130) (hE : ∀ b, 147 ≤ b → b < h.length → ¬ G b → ¬ E b ∧ ¬ G' b) : Sui h' T G' := by
  obtain ⟨vs, q1, q2, q3, q4⟩ := H
  refine ⟨vs, F.get q1 n1, F.get q2 n2, q3, fun j b hb => ?_⟩
  obtain ⟨p, q, cs, p1, p2, p3, p4, p5, p6⟩ := q4 j b hb
  obtain ⟨x1, x2⟩ := hE p p3 (lt_of_get p2.1) p5
  obtain ⟨y1, y2⟩ := hE q p4 (lt_of_get p2.2.1) p6
  exact ⟨p, q, cs, p1, p2.fr F x1 y1, p3, p4, x2, y2⟩
theorem Txc.fr {W br a4 st : Nat} {Ls : List (List Int32)} {c4 ss : List Value} (H : Txc h W Ls br a4 st c4 ss) (F : Fr E h h') (n1 : ¬ E 131) (n2 : ¬ E 132) (n3 : ¬ E a4) (n4 : ¬ E st) : Txc h' W Ls br a4 st c4 ss := by
  obtain ⟨q1, q2, q3, q4⟩ := H
  exact ⟨F.get q1 n1, q2.fr F n2 n3, F.get q3 n4, q4⟩
theorem Cst.le {B k k' c1 c2 c3 c4 ss n m : Nat} (H : Cst B k h c1 c2 c3 c4 ss) (h1 : h'.length ≤ h.length + n) (h2 : am_sz h' ≤ am_sz h + m) (h3 : n + 400 * k ≤ 400 * k') (h4 : m + 2000 * k ≤ 2000 * k') (h5 : h.length ≤ h'.length) : Cst B k' h' c1 c2 c3 c4 ss := by
  obtain ⟨q1, q2, q3, q4, q5, q6, q7, q8⟩ := H
  exact ⟨by omega, by omega, q3, q4, q5, q6, q7, by omega⟩
theorem Cst.up {B k k' c1 c2 c3 c4 ss : Nat} (H : Cst B k h c1 c2 c3 c4 ss) (hk : k ≤ k') : Cst B k' h c1 c2 c3 c4 ss := H.le (n := 0) (m := 0) (by omega) (by omega) (by omega) (by omega) (by omega)
theorem CI.up {B k k' : Nat} {s : St} (C : CI B s k h) (hk : k ≤ k') : CI B s k' h := by
  obtain ⟨W, L, R, τ, D, T, tk, Ls, br⟩ := s
  obtain ⟨ra, rt, a1, a2, a3, a4, st, u, c0, c1, c2, c3, c4, vs, ss, q1, q2, q3, q4, q5, q6, q7, q8, q9⟩ := C
  exact ⟨ra, rt, a1, a2, a3, a4, st, u, c0, c1, c2, c3, c4, vs, ss, q1, q2, q3, q4, q5, q6, q7, q8, q9.up hk⟩
end IV
/-! Chars that fit -/
theorem Chs.putd {h : AH} {a ar : Nat} {t : List Int32} {cs : List Value} {c : Int32} (H : Chs h a ar t cs) (hc : chr c) (hl : t.length < cs.length) : Chs ((h.set ar (.inl .char, cs.set t.length (.int c))).set a (.inr 1, [.ref ar, .int (nI (t.length + 1))])) a ar (t ++ [c]) (cs.set t.length (.int c)) ∧ am_sz ((h.set ar (.inl .char, cs.set t.length (.int c))).set a (.inr 1, [.ref ar, .int (nI (t.length + 1))])) = am_sz h := by
  obtain ⟨g1, g2, g3, g4, g5, g6, g7, g9⟩ := id H
  have gne : ar ≠ a := fun e => by rw [e, g1] at g2; cases g2
  have k1 : (h.set ar (.inl .char, cs.set t.length (.int c)))[a]? = some (.inr 1, [.ref ar, .int (nI t.length)]) := by rw [get_set_ne gne]; exact g1
  have k2 : ((h.set ar (.inl .char, cs.set t.length (.int c))).set a (.inr 1, [.ref ar, .int (nI (t.length + 1))]))[ar]? = some (.inl .char, cs.set t.length (.int c)) := by rw [get_set_ne gne.symm]; exact get_set_eq g2
  refine ⟨⟨by rw [List.length_append]; exact get_set_eq k1, k2, by rw [List.length_append, List.length_set]; exact hl, cs_set hl g4, g5, g6, by rw [List.length_set]; exact g7, fun x hx => ?_⟩, ?_⟩
  · rcases List.mem_append.mp hx with hx | hx
    · exact g9 x hx
    · rw [List.mem_singleton.mp hx]; exact hc
  · rw [sz_set (vs' := [.ref ar, .int (nI (t.length + 1))]) k1 rfl, sz_set g2 (List.length_set ..)]
theorem sp_put_fit {d : Nat} {h : AH} {a ar : Nat} {t : List Int32} {cs : List Value} {c : Int32} {o : Option Value} {Q : Option Value → AH → Prop} (H : Chs h a ar t cs) (hc : chr c) (hl : t.length < cs.length) : wp d 11 0 [some (.ref a), some (.int c), o] [] h Q ↔ Q none ((h.set ar (.inl .char, cs.set t.length (.int c))).set a (.inr 1, [.ref ar, .int (nI (t.length + 1))])) := by
  obtain ⟨h1, h2, h3, h4, h5, h6, h7, h9⟩ := id H
  simp only [k_11_0, k_11_0N, k_11_4, k_11_4N, k_11_8, k_11_9, k_11_1, k_11_5, okG_iff h1, fld_of h1, isA_iff h2, alen_of h2, List.length_cons, List.length_nil, List.getD_cons_succ, List.getD_cons_zero, Nat.reduceAdd, Nat.reduceLT]
  rw [if_neg (fun e => absurd hl (by rw [show Int32.ofNat cs.length = nI cs.length from rfl, nI_eq (by omega) (by omega)] at e; omega))]
  exact sp_put_end H hc hl
theorem Chs.emptied {h : AH} {a ar : Nat} {t : List Int32} {cs : List Value} (H : Chs h a ar t cs) : Chs (h.set a (.inr 1, [.ref ar, .int 0])) a ar [] cs ∧ am_sz (h.set a (.inr 1, [.ref ar, .int 0])) = am_sz h := by
  obtain ⟨g1, g2, g3, g4, g5, g6, g7, g9⟩ := id H
  have gne : a ≠ ar := fun e => by rw [e, g2] at g1; cases g1
  exact ⟨⟨get_set_eq g1, by rw [get_set_ne gne]; exact g2, Nat.zero_le _, fun j c hj => by simp at hj, g5, g6, g7, fun c hc => absurd hc List.not_mem_nil⟩, sz_set (vs' := [.ref ar, .int 0]) g1 rfl⟩
