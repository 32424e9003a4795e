/-! BUILDING: texts of values, the state of a building -/
def sx (i : Nat) : List Int32 := sBl.getD i []
theorem sxl (i : Nat) : (sx i).length ≤ 25 := by
  have key : ∀ i, i < 52 → (sBl.getD i []).length ≤ 25 := by decide +kernel
  unfold sx
  by_cases c : i < 52
  · exact key i c
  · rw [List.getD_eq_getElem?_getD, List.getElem?_eq_none (by rw [show sBl.length = 52 from rfl]; omega)]
    exact Nat.zero_le _
def nx (D : List Int32) (u : Nat) : Int32 := D.getD u 0
def hxd (c s : Int32) : Int32 := (sx 25).getD ((c >>> (s &&& 31)) &&& 15).toNatClampNeg 0
def chE (c q : Int32) : List Int32 := if c = 9 then sx 22 else if c = 10 then sx 21 else if c = 13 then sx 23 else if c = 92 ∨ c = q then [92, c] else if c < 32 ∨ 126 < c then sx 24 ++ ([hxd c 12] ++ ([hxd c 8] ++ ([hxd c 4] ++ [hxd c 0]))) else [c]
theorem chE_len (c q : Int32) : (chE c q).length ≤ 6 := by
  unfold chE
  split
  · decide
  split
  · decide
  split
  · decide
  split
  · exact (show 2 ≤ 6 by decide)
  split
  · exact Nat.le_refl 6
  · exact (show 1 ≤ 6 by decide)
def intL (n : Int32) : List Int32 := if n = -2147483648 then sx 26 else num n.toInt
def lngV (a b : Int32) : Int64 := (a.toInt64 <<< ((32 : Int32).toInt64 &&& 63)) + (b.toInt64 &&& 4294967295)
def lngL (a b : Int32) : List Int32 := if lngV a b = Int64.ofNat 9223372036854775808 then sx 27 else num (lngV a b).toInt ++ [76]
def eig3 (f : Nat) : List Int32 := if f % 10 = 0 then [] else [nI (48 + f % 10)]
def eig2 (f : Nat) : List Int32 := (if f % 100 = 0 then [] else [nI (48 + f / 10 % 10)]) ++ eig3 f
def eigP (m : Nat) : List Int32 := num ((m / 8 : Nat) : Int) ++ ([46] ++ ([nI (48 + m % 8 * 125 / 100)] ++ eig2 (m % 8 * 125)))
def eigL (n : Int) : List Int32 := (if n < 0 then [45] else []) ++ eigP n.natAbs
theorem eigL_len (n : Int) : (eigL n).length ≤ 30 := by
  have := num_len ((n.natAbs / 8 : Nat) : Int)
  unfold eigL eigP eig2 eig3
  simp only [List.length_append, List.length_cons, List.length_nil]
  split <;> split <;> split <;> simp only [List.length_cons, List.length_nil] <;> omega
def rnd (x : Int32) : Int64 := FP.f2l (FP.i2f x)
def BI (g : AH) (a ar0 : Nat) (cs0 : List Value) (D : List Int32) (vs : List Value) (h : AH) (t : List Int32) (u : Nat) : Prop := (∃ ar cs, Chs h a ar t cs ∧ (ar = ar0 ∨ g.length ≤ ar) ∧ h.length + cs0.length ≤ g.length + cs.length ∧ am_sz h + 2 * cs0.length ≤ am_sz g + 2 * cs.length ∧ cs0.length ≤ cs.length ∧ (cs.length ≤ cs0.length ∨ cs.length ≤ 2 * t.length)) ∧ (g.length ≤ h.length ∧ ∀ b, b < g.length → b ≠ a → b ≠ ar0 → b ≠ 112 → h[b]? = g[b]?) ∧ Dat h 112 113 D (min u D.length) vs ∧ (∃ t0, Chs g a ar0 t0 cs0) ∧ ∃ f, g[112]? = some (.inr 5, f)
section BLD
variable {g h : AH} {a ar0 d u : Nat} {cs0 vs : List Value} {D t : List Int32} {Q : Option Value → AH → Prop}
theorem BI.app (B : BI g a ar0 cs0 D vs h t u) : ∃ ar cs, Chs h a ar t cs ∧ ∀ (w : List Int32) (Q : AH → Prop), (∀ h', BI g a ar0 cs0 D vs h' (t ++ w) u → Q h') → App h a ar t cs w Q := by
  obtain ⟨⟨ar, cs, H, p1, p2, p3, p4, p5⟩, ⟨f1, f2⟩, Dt, G⟩ := B
  refine ⟨ar, cs, H, fun w Q K h' ar' cs' H' E' => ?_⟩
  obtain ⟨⟨q1, q2⟩, q3, q4, q5, q6, q7⟩ := E'
  obtain ⟨d1, d2, d3⟩ := id Dt
  have n1 : (112 : Nat) ≠ a := fun e => by have := H.1; rw [← e, d1] at this; cases this
  have n2 : (112 : Nat) ≠ ar := fun e => by have := H.2.1; rw [← e, d1] at this; cases this
  have n3 : (113 : Nat) ≠ a := fun e => by have := H.1; rw [← e, d2] at this; cases this
  have n4 : (113 : Nat) ≠ ar := fun e => by have := H.2.1; rw [← e, d2] at this; cases this
  refine K h' ⟨⟨ar', cs', H', by omega, by omega, by omega, by omega, ?_⟩, ⟨by omega, fun b hb b1 b2 b3 => ?_⟩, ⟨?_, ?_, d3⟩, G⟩
  · rw [List.length_append]
    omega
  · rw [q2 b (by omega) b1 (by omega)]
    exact f2 b hb b1 b2 b3
  · rw [q2 112 (lt_of_get d1) n1 n2]
    exact d1
  · rw [q2 113 (lt_of_get d2) n3 n4]
    exact d2
theorem BI.ov (B : BI g a ar0 cs0 D vs h t u) : okV h a 1 ↔ True := by
  obtain ⟨⟨ar, cs, H, -⟩, -⟩ := B
  exact okV_iff H.1
theorem BI.od (B : BI g a ar0 cs0 D vs h t u) : okV h 112 5 ↔ True := okV_iff B.2.2.1.1
theorem BI.cap {u' : Nat} (B : BI g a ar0 cs0 D vs h t u) (e : min u D.length = min u' D.length) : BI g a ar0 cs0 D vs h t u' := by
  obtain ⟨b1, b2, b3, b4⟩ := B
  exact ⟨b1, b2, by rw [← e]; exact b3, b4⟩
theorem BI.sta (B : BI g a ar0 cs0 D vs h t u) (S : Sta g) : Sta h := by
  intro r hr
  obtain ⟨⟨ar, cs, H, -⟩, ⟨f1, f2⟩, Dt, ⟨t0, G0⟩, -⟩ := B
  have e1 := sN_eq
  have e2 : sS = 52 := rfl
  have hl : r < g.length := by
    have := S r hr
    rw [List.getElem?_eq_getElem (l := sH) (by rw [sH_len]; exact hr)] at this
    exact (List.getElem?_eq_some_iff.mp this).1
  have h5 := G0.2.2.2.2.1
  have h6 := G0.2.2.2.2.2.1
  rw [f2 r hl (by omega) (by omega) (by omega)]
  exact S r hr
theorem BI.st (B : BI g a ar0 cs0 D vs h t u) {b : Nat} {y : AC} (hb : g[b]? = some y) (n1 : y.1 ≠ .inr 1) (n2 : y.1 ≠ .inl .char) (n3 : y.1 ≠ .inr 5) : h[b]? = some y := by
  obtain ⟨-, ⟨f1, f2⟩, -, ⟨t0, G0⟩, ⟨f, G1⟩⟩ := B
  have m1 : b ≠ a := fun e => by rw [e, G0.1] at hb; cases hb; exact n1 rfl
  have m2 : b ≠ ar0 := fun e => by rw [e, G0.2.1] at hb; cases hb; exact n2 rfl
  have m3 : b ≠ 112 := fun e => by rw [e, G1] at hb; cases hb; exact n3 rfl
  rw [f2 b (lt_of_get hb) m1 m2 m3]
  exact hb
theorem BI.row {r q : Nat} {l : List Ty} (B : BI g a ar0 cs0 D vs h t u) (W : Row g r q l) : Row h r q l := by
  obtain ⟨ws, w1, w2, w3, w4, w5, w6, w7⟩ := W
  refine ⟨ws, B.st w1 (by simp) (by simp) (by simp), B.st w2 (by simp) (by simp) (by simp), w3, w4, w5, w6, fun j τ hj => ?_⟩
  obtain ⟨p, p1, p2, p3⟩ := w7 j τ hj
  exact ⟨p, p1, B.st p2 (by simp [tyc]) (by simp [tyc]) (by simp [tyc]), p3⟩
theorem bi_put {c : Int32} {o : Option Value} (B : BI g a ar0 cs0 D vs h t u) (hc : chr c) (hb : t.length < 2 ^ 20) (K : ∀ h', BI g a ar0 cs0 D vs h' (t ++ [c]) u → Q none h') : wp (d + 1) 11 0 [some (.ref a), some (.int c), o] [] h Q := by
  obtain ⟨ar, cs, H, A⟩ := B.app
  exact sp_put H hc hb (A _ _ K)
theorem bi_puts {i : Nat} {o : Option Value} (B : BI g a ar0 cs0 D vs h t u) (S : Sta g) (hi : i < sS) (hb : t.length < 2 ^ 19) (K : ∀ h', BI g a ar0 cs0 D vs h' (t ++ sx i) u → Q none h') : wp (d + 4) 35 0 [some (.ref a), some (.ref (2 * i)), o] [] h Q := by
  obtain ⟨ar, cs, H, A⟩ := B.app
  have := sxl i
  exact sp_puts (bs := sx i) H ((B.sta S).str i hi) (by omega) (A _ _ K)
theorem bi_num {n : Int64} (B : BI g a ar0 cs0 D vs h t u) (hb : t.length < 2 ^ 19) (K : ∀ h', BI g a ar0 cs0 D vs h' (t ++ num n.toInt) u → Q none h') : wp (d + 2) 47 0 [some (.ref a), some (.long n), none, none, none, none] [] h Q := by
  obtain ⟨ar, cs, H, A⟩ := B.app
  exact sp_putNumber H hb (A _ _ K)
theorem bi_sep {n : Nat} (B : BI g a ar0 cs0 D vs h t u) (S : Sta g) (hn : n < 2 ^ 31) (hb : t.length < 2 ^ 19) (K : ∀ h', BI g a ar0 cs0 D vs h' (t ++ sep n) u → Q none h') : wp (d + 5) 37 0 [some (.int (nI n)), some (.ref a)] [] h Q := by
  obtain ⟨ar, cs, H, A⟩ := B.app
  exact sp_sep H (B.sta S) hn (by omega) (A _ _ K)
theorem bi_next (B : BI g a ar0 cs0 D vs h t u) (K : ∀ h', BI g a ar0 cs0 D vs h' t (u + 1) → Q (some (.int (nx D u))) h') : wp (d + 1) 43 0 [some (.ref 112)] [] h Q := by
  obtain ⟨⟨ar, cs, H, p1, p2, p3, p4, p5⟩, ⟨f1, f2⟩, Dt, G⟩ := B
  rw [sp_next Dt]
  obtain ⟨d1, d2, d3, d4, d5, d6, d7, d8⟩ := id Dt
  have n1 : (112 : Nat) ≠ a := fun e => by have := H.1; rw [← e, d1] at this; cases this
  have n2 : (112 : Nat) ≠ ar := fun e => by have := H.2.1; rw [← e, d1] at this; cases this
  have e1 : D.getD (min u D.length) 0 = nx D u := by
    unfold nx
    by_cases c : u < D.length
    · rw [Nat.min_eq_left (by omega)]
    · rw [List.getD_eq_getElem?_getD, List.getD_eq_getElem?_getD, List.getElem?_eq_none (by omega), List.getElem?_eq_none (by omega)]
  have e2 : min (min u D.length + 1) D.length = min (u + 1) D.length := by omega
  rw [e1, e2]
  refine K _ ⟨⟨ar, cs, ⟨by rw [get_set_ne n1]; exact H.1, by rw [get_set_ne n2]; exact H.2.1, H.2.2⟩, p1, by rw [List.length_set]; exact p2, by rw [sz_set (vs' := [.ref 113, .int (nI D.length), .int (nI (min (u + 1) D.length))]) d1 rfl]; exact p3, p4, p5⟩, ⟨by rw [List.length_set]; exact f1, fun b hb b1 b2 b3 => ?_⟩, ⟨get_set_eq d1, by rw [get_set_ne (by decide)]; exact d2, d3, d4, d5, by omega, d7, d8⟩, G⟩
  rw [get_set_ne (Ne.symm b3)]
  exact f2 b hb b1 b2 b3
/-! putCharacter -/
theorem bi_hex {c s x q : Int32} (B : BI g a ar0 cs0 D vs h t u) (S : Sta g) (hs : ¬ s < 0) (hb : t.length < 2 ^ 19) (K : ∀ h', BI g a ar0 cs0 D vs h' (t ++ [hxd c s]) u → wp (d + 5) 48 106 [some (.int x), some (.int q), some (.ref a), some (.int c), some (.int (s + (-4)))] [] h' Q) : wp (d + 5) 48 106 [some (.int x), some (.int q), some (.ref a), some (.int c), some (.int s)] [] h Q := by
  obtain ⟨j, hj, ej⟩ := pk_andE (c >>> (s &&& 31)) (m := 15) 4 (by decide)
  have S50 : Str h 50 (sx 25) := (B.sta S).str 25 (by decide)
  obtain ⟨v, -, -, s1, -, s3, -⟩ := id S50
  have hl : j < (sx 25).length := hj
  have ed : hxd c s = (sx 25)[j] := by
    unfold hxd
    rw [ej, nI_clamp (by omega), List.getD_eq_getElem?_getD, List.getElem?_eq_getElem hl]
    rfl
  simp only [k_48_106, k_48_108, k_48_111, k_48_111N, k_48_114, k_48_115, k_48_117, k_48_118, k_48_120, k_48_112, k_48_121, hs, if_false, ej, okV_iff s1, sp_charAt S50 hl, am_cat, am_kill, Value.category, List.map_cons, List.map_nil, List.sum_cons, List.sum_nil, Option.toList_some, Option.toList_none, List.cons_append, List.nil_append, List.length_cons, List.length_nil, List.getD_cons_succ, List.getD_cons_zero, List.set_cons_succ, List.set_cons_zero, Nat.reduceAdd, Nat.reduceLT, Nat.reduceLeDiff, Nat.zero_le, Nat.zero_add, Nat.add_zero]
  simp only [k_48_124, B.ov, am_cat, am_kill, Value.category, List.map_cons, List.map_nil, List.sum_cons, List.sum_nil, Option.toList_some, Option.toList_none, List.cons_append, List.nil_append, List.length_cons, List.length_nil, List.getD_cons_succ, List.getD_cons_zero, List.set_cons_succ, List.set_cons_zero, Nat.reduceAdd, Nat.reduceLT, Nat.reduceLeDiff, Nat.zero_le, Nat.zero_add, Nat.add_zero]
  refine bi_put B (asc_chr (s3 _ (List.getElem_mem hl))) (by omega) (fun h' B' => ?_)
  simp only [k_48_127, k_48_130, am_cat, am_kill, Value.category, List.map_cons, List.map_nil, List.sum_cons, List.sum_nil, Option.toList_some, Option.toList_none, List.cons_append, List.nil_append, List.length_cons, List.length_nil, List.getD_cons_succ, List.getD_cons_zero, List.set_cons_succ, List.set_cons_zero, Nat.reduceAdd, Nat.reduceLT, Nat.reduceLeDiff, Nat.zero_le, Nat.zero_add, Nat.add_zero]
  exact K h' (by rw [ed]; exact B')
theorem bi_char {x q : Int32} (B : BI g a ar0 cs0 D vs h t u) (S : Sta g) (hq : q = 39 ∨ q = 34) (hb : t.length < 2 ^ 18) (K : ∀ h', BI g a ar0 cs0 D vs h' (t ++ chE (x &&& 65535) q) u → Q none h') : wp (d + 5) 48 0 [some (.int x), some (.int q), some (.ref a), none, none] [] h Q := by
  obtain ⟨n, hn, hc⟩ := pk_andE x (m := 65535) 16 (by decide)
  have hch : chr (x &&& 65535) := by rw [hc]; exact chr_nI hn
  simp only [k_48_0, k_48_3, k_48_4, k_48_5, k_48_6, k_48_1, am_cat, am_kill, Value.category, List.map_cons, List.map_nil, List.sum_cons, List.sum_nil, Option.toList_some, Option.toList_none, List.cons_append, List.nil_append, List.length_cons, List.length_nil, List.getD_cons_succ, List.getD_cons_zero, List.set_cons_succ, List.set_cons_zero, Nat.reduceAdd, Nat.reduceLT, Nat.reduceLeDiff, Nat.zero_le, Nat.zero_add, Nat.add_zero]
  generalize x &&& 65535 = c at hch K
  unfold chE at K
  by_cases c9 : c = 9
  · rw [if_pos c9] at K ⊢
    simp only [k_48_47, k_48_47N, k_48_48, k_48_50, B.ov, am_cat, am_kill, Value.category, List.map_cons, List.map_nil, List.sum_cons, List.sum_nil, Option.toList_some, Option.toList_none, List.cons_append, List.nil_append, List.length_cons, List.length_nil, List.getD_cons_succ, List.getD_cons_zero, List.set_cons_succ, List.set_cons_zero, Nat.reduceAdd, Nat.reduceLT, Nat.reduceLeDiff, Nat.zero_le, Nat.zero_add, Nat.add_zero]
    refine bi_puts (i := 22) B S (by decide) (by omega) (fun h' B' => ?_)
    simp only [k_48_53, am_cat, am_kill, Value.category, List.map_cons, List.map_nil, List.sum_cons, List.sum_nil, Option.toList_some, Option.toList_none, List.cons_append, List.nil_append, List.length_cons, List.length_nil, List.getD_cons_succ, List.getD_cons_zero, List.set_cons_succ, List.set_cons_zero, Nat.reduceAdd, Nat.reduceLT, Nat.reduceLeDiff, Nat.zero_le, Nat.zero_add, Nat.add_zero]
    exact K h' B'
  rw [if_neg c9] at K ⊢
  by_cases c10 : c = 10
  · rw [if_pos c10] at K ⊢
    simp only [k_48_40, k_48_40N, k_48_41, k_48_43, B.ov, am_cat, am_kill, Value.category, List.map_cons, List.map_nil, List.sum_cons, List.sum_nil, Option.toList_some, Option.toList_none, List.cons_append, List.nil_append, List.length_cons, List.length_nil, List.getD_cons_succ, List.getD_cons_zero, List.set_cons_succ, List.set_cons_zero, Nat.reduceAdd, Nat.reduceLT, Nat.reduceLeDiff, Nat.zero_le, Nat.zero_add, Nat.add_zero]
    refine bi_puts (i := 21) B S (by decide) (by omega) (fun h' B' => ?_)
    simp only [k_48_46, am_cat, am_kill, Value.category, List.map_cons, List.map_nil, List.sum_cons, List.sum_nil, Option.toList_some, Option.toList_none, List.cons_append, List.nil_append, List.length_cons, List.length_nil, List.getD_cons_succ, List.getD_cons_zero, List.set_cons_succ, List.set_cons_zero, Nat.reduceAdd, Nat.reduceLT, Nat.reduceLeDiff, Nat.zero_le, Nat.zero_add, Nat.add_zero]
    exact K h' B'
  rw [if_neg c10] at K ⊢
  by_cases c13 : c = 13
  · rw [if_pos c13] at K
    have c11 : ¬ c = 11 := fun e => by rw [c13] at e; exact absurd e (by decide)
    have c12 : ¬ c = 12 := fun e => by rw [c13] at e; exact absurd e (by decide)
    rw [if_neg c11, if_neg c12, if_pos c13]
    simp only [k_48_54, k_48_54N, k_48_55, k_48_57, B.ov, am_cat, am_kill, Value.category, List.map_cons, List.map_nil, List.sum_cons, List.sum_nil, Option.toList_some, Option.toList_none, List.cons_append, List.nil_append, List.length_cons, List.length_nil, List.getD_cons_succ, List.getD_cons_zero, List.set_cons_succ, List.set_cons_zero, Nat.reduceAdd, Nat.reduceLT, Nat.reduceLeDiff, Nat.zero_le, Nat.zero_add, Nat.add_zero]
    refine bi_puts (i := 23) B S (by decide) (by omega) (fun h' B' => ?_)
    simp only [k_48_60, am_cat, am_kill, Value.category, List.map_cons, List.map_nil, List.sum_cons, List.sum_nil, Option.toList_some, Option.toList_none, List.cons_append, List.nil_append, List.length_cons, List.length_nil, List.getD_cons_succ, List.getD_cons_zero, List.set_cons_succ, List.set_cons_zero, Nat.reduceAdd, Nat.reduceLT, Nat.reduceLeDiff, Nat.zero_le, Nat.zero_add, Nat.add_zero]
    exact K h' B'
  rw [if_neg c13] at K ⊢
  simp only [ite_self]
  by_cases ce : c = 92 ∨ c = q
  · rw [if_pos ce] at K
    have l1 : ¬ c < 32 := by rcases ce with e | e <;> rcases hq with e2 | e2 <;> rw [e] <;> (try rw [e2]) <;> decide
    have l2 : ¬ 126 < c := by rcases ce with e | e <;> rcases hq with e2 | e2 <;> rw [e] <;> (try rw [e2]) <;> decide
    simp only [k_48_61, k_48_62, k_48_64, k_48_67, k_48_68, k_48_69, am_cat, am_kill, Value.category, List.map_cons, List.map_nil, List.sum_cons, List.sum_nil, Option.toList_some, Option.toList_none, List.cons_append, List.nil_append, List.length_cons, List.length_nil, List.getD_cons_succ, List.getD_cons_zero, List.set_cons_succ, List.set_cons_zero, Nat.reduceAdd, Nat.reduceLT, Nat.reduceLeDiff, Nat.zero_le, Nat.zero_add, Nat.add_zero]
    rw [ite_two (r := c = 92 ∨ c = q) Iff.rfl, if_pos ce]
    simp only [k_48_72, k_48_72N, k_48_73, k_48_75, B.ov, am_cat, am_kill, Value.category, List.map_cons, List.map_nil, List.sum_cons, List.sum_nil, Option.toList_some, Option.toList_none, List.cons_append, List.nil_append, List.length_cons, List.length_nil, List.getD_cons_succ, List.getD_cons_zero, List.set_cons_succ, List.set_cons_zero, Nat.reduceAdd, Nat.reduceLT, Nat.reduceLeDiff, Nat.zero_le, Nat.zero_add, Nat.add_zero]
    refine bi_put B ⟨by decide, by decide⟩ (by omega) (fun h1 B1 => ?_)
    simp only [k_48_78, k_48_79, k_48_81, k_48_84, k_48_85, k_48_87, k_48_90, k_48_90N, k_48_91, k_48_92, l1, l2, if_false, B1.ov, am_cat, am_kill, Value.category, List.map_cons, List.map_nil, List.sum_cons, List.sum_nil, Option.toList_some, Option.toList_none, List.cons_append, List.nil_append, List.length_cons, List.length_nil, List.getD_cons_succ, List.getD_cons_zero, List.set_cons_succ, List.set_cons_zero, Nat.reduceAdd, Nat.reduceLT, Nat.reduceLeDiff, Nat.zero_le, Nat.zero_add, Nat.add_zero]
    refine bi_put B1 hch (by rw [List.length_append]; show t.length + 1 < _; omega) (fun h2 B2 => ?_)
    simp only [k_48_95, am_cat, am_kill, Value.category, List.map_cons, List.map_nil, List.sum_cons, List.sum_nil, Option.toList_some, Option.toList_none, List.cons_append, List.nil_append, List.length_cons, List.length_nil, List.getD_cons_succ, List.getD_cons_zero, List.set_cons_succ, List.set_cons_zero, Nat.reduceAdd, Nat.reduceLT, Nat.reduceLeDiff, Nat.zero_le, Nat.zero_add, Nat.add_zero]
    exact K h2 (by rw [List.append_assoc] at B2; exact B2)
  · rw [if_neg ce] at K
    simp only [k_48_61, k_48_62, k_48_64, k_48_67, k_48_68, k_48_69, am_cat, am_kill, Value.category, List.map_cons, List.map_nil, List.sum_cons, List.sum_nil, Option.toList_some, Option.toList_none, List.cons_append, List.nil_append, List.length_cons, List.length_nil, List.getD_cons_succ, List.getD_cons_zero, List.set_cons_succ, List.set_cons_zero, Nat.reduceAdd, Nat.reduceLT, Nat.reduceLeDiff, Nat.zero_le, Nat.zero_add, Nat.add_zero]
    rw [ite_two (r := c = 92 ∨ c = q) Iff.rfl, if_neg ce]
    simp only [k_48_78, k_48_79, k_48_81, k_48_84, k_48_85, k_48_87, am_cat, am_kill, Value.category, List.map_cons, List.map_nil, List.sum_cons, List.sum_nil, Option.toList_some, Option.toList_none, List.cons_append, List.nil_append, List.length_cons, List.length_nil, List.getD_cons_succ, List.getD_cons_zero, List.set_cons_succ, List.set_cons_zero, Nat.reduceAdd, Nat.reduceLT, Nat.reduceLeDiff, Nat.zero_le, Nat.zero_add, Nat.add_zero]
    rw [ite_two (r := c < 32 ∨ 126 < c) Iff.rfl]
    by_cases cx : c < 32 ∨ 126 < c
    · rw [if_pos cx] at K ⊢
      simp only [k_48_96, k_48_96N, k_48_97, k_48_99, B.ov, am_cat, am_kill, Value.category, List.map_cons, List.map_nil, List.sum_cons, List.sum_nil, Option.toList_some, Option.toList_none, List.cons_append, List.nil_append, List.length_cons, List.length_nil, List.getD_cons_succ, List.getD_cons_zero, List.set_cons_succ, List.set_cons_zero, Nat.reduceAdd, Nat.reduceLT, Nat.reduceLeDiff, Nat.zero_le, Nat.zero_add, Nat.add_zero]
      refine bi_puts (i := 24) B S (by decide) (by omega) (fun h1 B1 => ?_)
      simp only [k_48_102, k_48_104, am_cat, am_kill, Value.category, List.map_cons, List.map_nil, List.sum_cons, List.sum_nil, Option.toList_some, Option.toList_none, List.cons_append, List.nil_append, List.length_cons, List.length_nil, List.getD_cons_succ, List.getD_cons_zero, List.set_cons_succ, List.set_cons_zero, Nat.reduceAdd, Nat.reduceLT, Nat.reduceLeDiff, Nat.zero_le, Nat.zero_add, Nat.add_zero]
      have l24 := sxl 24
      refine bi_hex B1 S (by decide) (by simp only [List.length_append]; omega) (fun h2 B2 => ?_)
      rw [show (12 : Int32) + (-4) = 8 by decide]
      refine bi_hex B2 S (by decide) (by simp only [List.length_append, List.length_cons, List.length_nil]; omega) (fun h3 B3 => ?_)
      rw [show (8 : Int32) + (-4) = 4 by decide]
      refine bi_hex B3 S (by decide) (by simp only [List.length_append, List.length_cons, List.length_nil]; omega) (fun h4 B4 => ?_)
      rw [show (4 : Int32) + (-4) = 0 by decide]
      refine bi_hex B4 S (by decide) (by simp only [List.length_append, List.length_cons, List.length_nil]; omega) (fun h5 B5 => ?_)
      have e4 : (0 : Int32) + (-4) < 0 := by decide
      simp only [k_48_106, k_48_108, k_48_133, e4, if_true, am_cat, am_kill, Value.category, List.map_cons, List.map_nil, List.sum_cons, List.sum_nil, Option.toList_some, Option.toList_none, List.cons_append, List.nil_append, List.length_cons, List.length_nil, List.getD_cons_succ, List.getD_cons_zero, List.set_cons_succ, List.set_cons_zero, Nat.reduceAdd, Nat.reduceLT, Nat.reduceLeDiff, Nat.zero_le, Nat.zero_add, Nat.add_zero]
      refine K h5 ?_
      simp only [List.append_assoc] at B5
      exact B5
    · rw [if_neg cx] at K ⊢
      simp only [k_48_90, k_48_90N, k_48_91, k_48_92, B.ov, am_cat, am_kill, Value.category, List.map_cons, List.map_nil, List.sum_cons, List.sum_nil, Option.toList_some, Option.toList_none, List.cons_append, List.nil_append, List.length_cons, List.length_nil, List.getD_cons_succ, List.getD_cons_zero, List.set_cons_succ, List.set_cons_zero, Nat.reduceAdd, Nat.reduceLT, Nat.reduceLeDiff, Nat.zero_le, Nat.zero_add, Nat.add_zero]
      refine bi_put B hch (by omega) (fun h1 B1 => ?_)
      simp only [k_48_95, am_cat, am_kill, Value.category, List.map_cons, List.map_nil, List.sum_cons, List.sum_nil, Option.toList_some, Option.toList_none, List.cons_append, List.nil_append, List.length_cons, List.length_nil, List.getD_cons_succ, List.getD_cons_zero, List.set_cons_succ, List.set_cons_zero, Nat.reduceAdd, Nat.reduceLT, Nat.reduceLeDiff, Nat.zero_le, Nat.zero_add, Nat.add_zero]
      exact K h1 B1
theorem bi_int {n : Int32} (B : BI g a ar0 cs0 D vs h t u) (S : Sta g) (hb : t.length < 2 ^ 18) (K : ∀ h', BI g a ar0 cs0 D vs h' (t ++ intL n) u → Q none h') : wp (d + 5) 49 0 [some (.int n), some (.ref a)] [] h Q := by
  simp only [k_49_0, k_49_3, k_49_1, am_cat, am_kill, Value.category, List.map_cons, List.map_nil, List.sum_cons, List.sum_nil, Option.toList_some, Option.toList_none, List.cons_append, List.nil_append, List.length_cons, List.length_nil, List.getD_cons_succ, List.getD_cons_zero, List.set_cons_succ, List.set_cons_zero, Nat.reduceAdd, Nat.reduceLT, Nat.reduceLeDiff, Nat.zero_le, Nat.zero_add, Nat.add_zero]
  unfold intL at K
  by_cases c : n = -2147483648
  · rw [if_pos c] at K ⊢
    simp only [k_49_6, k_49_6N, k_49_7, k_49_9, B.ov, am_cat, am_kill, Value.category, List.map_cons, List.map_nil, List.sum_cons, List.sum_nil, Option.toList_some, Option.toList_none, List.cons_append, List.nil_append, List.length_cons, List.length_nil, List.getD_cons_succ, List.getD_cons_zero, List.set_cons_succ, List.set_cons_zero, Nat.reduceAdd, Nat.reduceLT, Nat.reduceLeDiff, Nat.zero_le, Nat.zero_add, Nat.add_zero]
    refine bi_puts (i := 26) B S (by decide) (by omega) (fun h' B' => ?_)
    simp only [k_49_12, k_49_21, am_cat, am_kill, Value.category, List.map_cons, List.map_nil, List.sum_cons, List.sum_nil, Option.toList_some, Option.toList_none, List.cons_append, List.nil_append, List.length_cons, List.length_nil, List.getD_cons_succ, List.getD_cons_zero, List.set_cons_succ, List.set_cons_zero, Nat.reduceAdd, Nat.reduceLT, Nat.reduceLeDiff, Nat.zero_le, Nat.zero_add, Nat.add_zero]
    exact K h' B'
  · rw [if_neg c] at K ⊢
    simp only [k_49_15, k_49_15N, k_49_16, k_49_17, k_49_18, B.ov, am_cat, am_kill, Value.category, List.map_cons, List.map_nil, List.sum_cons, List.sum_nil, Option.toList_some, Option.toList_none, List.cons_append, List.nil_append, List.length_cons, List.length_nil, List.getD_cons_succ, List.getD_cons_zero, List.set_cons_succ, List.set_cons_zero, Nat.reduceAdd, Nat.reduceLT, Nat.reduceLeDiff, Nat.zero_le, Nat.zero_add, Nat.add_zero]
    refine bi_num B (by omega) (fun h' B' => ?_)
    rw [Int32.toInt_toInt64] at B'
    simp only [k_49_21, am_cat, am_kill, Value.category, List.map_cons, List.map_nil, List.sum_cons, List.sum_nil, Option.toList_some, Option.toList_none, List.cons_append, List.nil_append, List.length_cons, List.length_nil, List.getD_cons_succ, List.getD_cons_zero, List.set_cons_succ, List.set_cons_zero, Nat.reduceAdd, Nat.reduceLT, Nat.reduceLeDiff, Nat.zero_le, Nat.zero_add, Nat.add_zero]
    exact K h' B'
/-! putEighths -/
theorem abs_lN {n : Int64} (hn : n.toInt.natAbs < 2 ^ 62) : (if 0 < n then n else -n) = lN n.toInt.natAbs := by
  apply Int64.toInt_inj.mp
  rw [pk_lT (by omega)]
  by_cases c : 0 < n
  · rw [if_pos c]
    rw [Int64.lt_iff_toInt_lt, Int64.toInt_zero] at c
    omega
  · rw [if_neg c]
    rw [Int64.lt_iff_toInt_lt, Int64.toInt_zero] at c
    have e : -n = Int64.ofInt (-n.toInt) := by rw [Int64.ofInt_neg, Int64.ofInt_toInt]
    rw [e, Int64.toInt_ofInt_of_le (by omega) (by omega)]
    omega
theorem bi_eig3 {n : Int64} {f : Nat} {o3 o4 : Option Value} (hf : f < 1000) (B : BI g a ar0 cs0 D vs h t u) (hb : t.length < 2 ^ 19) (K : ∀ h', BI g a ar0 cs0 D vs h' (t ++ eig3 f) u → Q none h') : wp (d + 3) 51 78 [some (.long n), none, some (.ref a), o3, o4, some (.int (nI f))] [] h Q := by
  have h10 : ¬ (10 : Int32) = 0 := by decide
  have e1 : nI f - nI f / 10 * 10 = nI (f % 10) := pk_rem (d := 10) (by omega) (by decide) (by decide)
  have e2 : nI (f % 10) = 0 ↔ f % 10 = 0 := nI_eq (b := 0) (by omega) (by omega)
  have e3 : (48 : Int32) + nI (f % 10) = nI (48 + f % 10) := nI_add 48 _
  simp only [k_51_78, k_51_80, k_51_82 h10, k_51_83, e1, e2, am_cat, am_kill, Value.category, List.map_cons, List.map_nil, List.sum_cons, List.sum_nil, Option.toList_some, Option.toList_none, List.cons_append, List.nil_append, List.length_cons, List.length_nil, List.getD_cons_succ, List.getD_cons_zero, List.set_cons_succ, List.set_cons_zero, Nat.reduceAdd, Nat.reduceLT, Nat.reduceLeDiff, Nat.zero_le, Nat.zero_add, Nat.add_zero]
  unfold eig3 at K
  by_cases c : f % 10 = 0
  · rw [if_pos c] at K ⊢
    simp only [k_51_98, am_cat, am_kill, Value.category, List.map_cons, List.map_nil, List.sum_cons, List.sum_nil, Option.toList_some, Option.toList_none, List.cons_append, List.nil_append, List.length_cons, List.length_nil, List.getD_cons_succ, List.getD_cons_zero, List.set_cons_succ, List.set_cons_zero, Nat.reduceAdd, Nat.reduceLT, Nat.reduceLeDiff, Nat.zero_le, Nat.zero_add, Nat.add_zero]
    exact K h (by rw [List.append_nil]; exact B)
  · rw [if_neg c] at K ⊢
    simp only [k_51_86, k_51_86N, k_51_87, k_51_89, k_51_91, k_51_93 h10, k_51_94, k_51_95, e1, e3, B.ov, am_cat, am_kill, Value.category, List.map_cons, List.map_nil, List.sum_cons, List.sum_nil, Option.toList_some, Option.toList_none, List.cons_append, List.nil_append, List.length_cons, List.length_nil, List.getD_cons_succ, List.getD_cons_zero, List.set_cons_succ, List.set_cons_zero, Nat.reduceAdd, Nat.reduceLT, Nat.reduceLeDiff, Nat.zero_le, Nat.zero_add, Nat.add_zero]
    refine bi_put B (chr_nI (by omega)) (by omega) (fun h1 B1 => ?_)
    simp only [k_51_98, am_cat, am_kill, Value.category, List.map_cons, List.map_nil, List.sum_cons, List.sum_nil, Option.toList_some, Option.toList_none, List.cons_append, List.nil_append, List.length_cons, List.length_nil, List.getD_cons_succ, List.getD_cons_zero, List.set_cons_succ, List.set_cons_zero, Nat.reduceAdd, Nat.reduceLT, Nat.reduceLeDiff, Nat.zero_le, Nat.zero_add, Nat.add_zero]
    exact K h1 B1
theorem bi_eig2 {n : Int64} {f : Nat} {o3 o4 : Option Value} (hf : f < 1000) (B : BI g a ar0 cs0 D vs h t u) (hb : t.length < 2 ^ 18) (K : ∀ h', BI g a ar0 cs0 D vs h' (t ++ eig2 f) u → Q none h') : wp (d + 3) 51 55 [some (.long n), none, some (.ref a), o3, o4, some (.int (nI f))] [] h Q := by
  have h10 : ¬ (10 : Int32) = 0 := by decide
  have h100 : ¬ (100 : Int32) = 0 := by decide
  have e1 : nI f - nI f / 100 * 100 = nI (f % 100) := pk_rem (d := 100) (by omega) (by decide) (by decide)
  have e2 : nI (f % 100) = 0 ↔ f % 100 = 0 := nI_eq (b := 0) (by omega) (by omega)
  have e4 : nI f / 10 = nI (f / 10) := pk_div (d := 10) (by omega) (by decide) (by decide)
  have e5 : nI (f / 10) - nI (f / 10) / 10 * 10 = nI (f / 10 % 10) := pk_rem (d := 10) (by omega) (by decide) (by decide)
  have e3 : (48 : Int32) + nI (f / 10 % 10) = nI (48 + f / 10 % 10) := nI_add 48 _
  simp only [k_51_55, k_51_57, k_51_59 h100, k_51_60, e1, e2, am_cat, am_kill, Value.category, List.map_cons, List.map_nil, List.sum_cons, List.sum_nil, Option.toList_some, Option.toList_none, List.cons_append, List.nil_append, List.length_cons, List.length_nil, List.getD_cons_succ, List.getD_cons_zero, List.set_cons_succ, List.set_cons_zero, Nat.reduceAdd, Nat.reduceLT, Nat.reduceLeDiff, Nat.zero_le, Nat.zero_add, Nat.add_zero]
  unfold eig2 at K
  by_cases c : f % 100 = 0
  · rw [if_pos c, List.nil_append] at K
    rw [if_pos c]
    exact bi_eig3 hf B (by omega) K
  · rw [if_neg c] at K
    rw [if_neg c]
    simp only [k_51_63, k_51_63N, k_51_64, k_51_66, k_51_68, k_51_70 h10, k_51_71, k_51_73 h10, k_51_74, k_51_75, e4, e5, e3, B.ov, am_cat, am_kill, Value.category, List.map_cons, List.map_nil, List.sum_cons, List.sum_nil, Option.toList_some, Option.toList_none, List.cons_append, List.nil_append, List.length_cons, List.length_nil, List.getD_cons_succ, List.getD_cons_zero, List.set_cons_succ, List.set_cons_zero, Nat.reduceAdd, Nat.reduceLT, Nat.reduceLeDiff, Nat.zero_le, Nat.zero_add, Nat.add_zero]
    refine bi_put B (chr_nI (by omega)) (by omega) (fun h1 B1 => ?_)
    refine bi_eig3 hf B1 (by rw [List.length_append]; show t.length + 1 < _; omega) (fun h2 B2 => ?_)
    exact K h2 (by rw [List.append_assoc] at B2; exact B2)
theorem bi_eigP {n : Int64} (hn : n.toInt.natAbs < 2 ^ 62) (B : BI g a ar0 cs0 D vs h t u) (hb : t.length < 2 ^ 17) (K : ∀ h', BI g a ar0 cs0 D vs h' (t ++ eigP n.toInt.natAbs) u → Q none h') : wp (d + 3) 51 12 [some (.long n), none, some (.ref a), none, none, none] [] h Q := by
  have h8 : ¬ (8 : Int64) = 0 := by decide
  have h100 : ¬ (100 : Int32) = 0 := by decide
  have e0 := abs_lN hn
  generalize n.toInt.natAbs = m at hn e0 K
  have e2 : lN m / 8 = lN (m / 8) := pk_lDiv (b := 8) (by omega) (by decide) (by decide)
  have e1 : lN m - lN (m / 8) * 8 = lN (m % 8) := by rw [← e2]; exact pk_lRem (b := 8) (by omega) (by decide) (by decide)
  have e3 : nI (m % 8) * 125 = nI (m % 8 * 125) := nI_mul _ 125
  have hf : m % 8 * 125 < 1000 := by omega
  have e4 : nI (m % 8 * 125) / 100 = nI (m % 8 * 125 / 100) := pk_div (d := 100) (by omega) (by decide) (by decide)
  have e5 : (48 : Int32) + nI (m % 8 * 125 / 100) = nI (48 + m % 8 * 125 / 100) := nI_add 48 _
  simp only [k_51_12, k_51_16, k_51_17, k_51_13, k_51_18, k_51_21 h8, k_51_22, k_51_23, k_51_25, k_51_26, k_51_28, k_51_28N, k_51_29, k_51_30, k_51_33 h8, k_51_34, e0, e1, e2, lN_i, e3, B.ov, am_cat, am_kill, Value.category, List.map_cons, List.map_nil, List.sum_cons, List.sum_nil, Option.toList_some, Option.toList_none, List.cons_append, List.nil_append, List.length_cons, List.length_nil, List.getD_cons_succ, List.getD_cons_zero, List.set_cons_succ, List.set_cons_zero, Nat.reduceAdd, Nat.reduceLT, Nat.reduceLeDiff, Nat.zero_le, Nat.zero_add, Nat.add_zero]
  unfold eigP at K
  have nl := num_len ((m / 8 : Nat) : Int)
  refine bi_num B (by omega) (fun h1 B1 => ?_)
  rw [pk_lT (show m / 8 < 2 ^ 63 by omega)] at B1
  simp only [k_51_37, k_51_37N, k_51_38, k_51_40, B1.ov, am_cat, am_kill, Value.category, List.map_cons, List.map_nil, List.sum_cons, List.sum_nil, Option.toList_some, Option.toList_none, List.cons_append, List.nil_append, List.length_cons, List.length_nil, List.getD_cons_succ, List.getD_cons_zero, List.set_cons_succ, List.set_cons_zero, Nat.reduceAdd, Nat.reduceLT, Nat.reduceLeDiff, Nat.zero_le, Nat.zero_add, Nat.add_zero]
  refine bi_put B1 ⟨by decide, by decide⟩ (by rw [List.length_append]; omega) (fun h2 B2 => ?_)
  simp only [k_51_43, k_51_43N, k_51_44, k_51_46, k_51_48, k_51_50 h100, k_51_51, k_51_52, e4, e5, B2.ov, am_cat, am_kill, Value.category, List.map_cons, List.map_nil, List.sum_cons, List.sum_nil, Option.toList_some, Option.toList_none, List.cons_append, List.nil_append, List.length_cons, List.length_nil, List.getD_cons_succ, List.getD_cons_zero, List.set_cons_succ, List.set_cons_zero, Nat.reduceAdd, Nat.reduceLT, Nat.reduceLeDiff, Nat.zero_le, Nat.zero_add, Nat.add_zero]
  refine bi_put B2 (chr_nI (by omega)) (by simp only [List.length_append, List.length_cons, List.length_nil]; omega) (fun h3 B3 => ?_)
  refine bi_eig2 hf B3 (by simp only [List.length_append, List.length_cons, List.length_nil]; omega) (fun h4 B4 => ?_)
  refine K h4 ?_
  simp only [List.append_assoc] at B4
  exact B4
theorem bi_eig {n : Int64} (hn : n.toInt.natAbs < 2 ^ 62) (B : BI g a ar0 cs0 D vs h t u) (hb : t.length < 2 ^ 16) (K : ∀ h', BI g a ar0 cs0 D vs h' (t ++ eigL n.toInt) u → Q none h') : wp (d + 3) 51 0 [some (.long n), none, some (.ref a), none, none, none] [] h Q := by
  simp only [k_51_0, k_51_1, k_51_2, k_51_3, lg_cmp_lt, lt0_toInt, am_cat, am_kill, Value.category, List.map_cons, List.map_nil, List.sum_cons, List.sum_nil, Option.toList_some, Option.toList_none, List.cons_append, List.nil_append, List.length_cons, List.length_nil, List.getD_cons_succ, List.getD_cons_zero, List.set_cons_succ, List.set_cons_zero, Nat.reduceAdd, Nat.reduceLT, Nat.reduceLeDiff, Nat.zero_le, Nat.zero_add, Nat.add_zero]
  unfold eigL at K
  by_cases c : n.toInt < 0
  · rw [if_pos c] at K ⊢
    simp only [k_51_6, k_51_6N, k_51_7, k_51_9, B.ov, am_cat, am_kill, Value.category, List.map_cons, List.map_nil, List.sum_cons, List.sum_nil, Option.toList_some, Option.toList_none, List.cons_append, List.nil_append, List.length_cons, List.length_nil, List.getD_cons_succ, List.getD_cons_zero, List.set_cons_succ, List.set_cons_zero, Nat.reduceAdd, Nat.reduceLT, Nat.reduceLeDiff, Nat.zero_le, Nat.zero_add, Nat.add_zero]
    refine bi_put B ⟨by decide, by decide⟩ (by omega) (fun h1 B1 => ?_)
    refine bi_eigP hn B1 (by rw [List.length_append]; show t.length + 1 < _; omega) (fun h2 B2 => ?_)
    exact K h2 (by rw [List.append_assoc] at B2; exact B2)
  · rw [if_neg c, List.nil_append] at K
    rw [if_neg c]
    exact bi_eigP hn B (by omega) K
end BLD
